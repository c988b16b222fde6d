set_option maxHeartbeats 4000000 in
set_option maxRecDepth 100000 in
theorem eX7_in {d : Nat} {Q : Option Value → xSt → Prop} (a0 : Int32) (a1 : Int32) (a2 : Int32) (st : xSt) (h : ((a0 < a1 → Q (some (.int 0)) st) ∧ (¬ a0 < a1 → ((a2 < a0 → Q (some (.int 0)) st) ∧ (¬ a2 < a0 → Q (some (.int 1)) st))))) : Ct (d) M_X7_in [.int a0, .int a1, .int a2] st Q := by
  refine Ct_of (by decide +kernel) (Nat.le_of_ble_eq_true rfl) (fun κ C Z => ?_)
  show X κ 0 [(0, .int a0), (1, .int a1), (2, .int a2)] [] st
  refine X_iload_n C dX7_in_0 rfl (j := 0) rfl ?_
  refine X_iload_n C dX7_in_1 rfl (j := 1) rfl ?_
  refine X_icmp_lt C dX7_in_2 (tgt := 14) (by decide) (fun c => ?_) (fun c => ?_)
  · replace h := h.1 c
    refine X_iconst C (v := 0) (by decide) dX7_in_14 ?_
    exact X_zret C Z rfl (by decide) dX7_in_15 h
  · replace h := h.2 c
    refine X_iload_n C dX7_in_5 rfl (j := 0) rfl ?_
    refine X_iload_n C dX7_in_6 rfl (j := 2) rfl ?_
    refine X_icmp_gt C dX7_in_7 (tgt := 14) (by decide) (fun c => ?_) (fun c => ?_)
    · replace h := h.1 c
      refine X_iconst C (v := 0) (by decide) dX7_in_14 ?_
      exact X_zret C Z rfl (by decide) dX7_in_15 h
    · replace h := h.2 c
      refine X_iconst C (v := 1) (by decide) dX7_in_10 ?_
      refine X_goto C dX7_in_11 (tgt := 15) (by decide) ?_
      exact X_zret C Z rfl (by decide) dX7_in_15 h
set_option maxHeartbeats 4000000 in
set_option maxRecDepth 100000 in
theorem eX7_isWord {d : Nat} {Q : Option Value → xSt → Prop} (a0 : Int32) (st : xSt) (h : Ct d M_X7_in [.int a0, .int 0, .int 99] st (Qi fun v2 s1 => (v2 = 0 ∨ v2 = 1) ∧ Q (some (.int v2)) s1)) : Ct (d + 1) M_X7_isWord [.int a0] st Q := by
  refine Ct_of (by decide +kernel) (Nat.le_of_ble_eq_true rfl) (fun κ C Z => ?_)
  show X κ 0 [(0, .int a0)] [] st
  refine X_iload_n C dX7_isWord_0 rfl (j := 0) rfl ?_
  refine X_iconst C (v := 0) (by decide) dX7_isWord_1 ?_
  refine X_bipush C (v := 99) (by decide) dX7_isWord_2 ?_
  refine X_callS C dX7_isWord_4 pw_RX7_75 (as := [.int a0, .int 0, .int 99]) (S := []) rfl rfl (Nat.le_of_ble_eq_true rfl) (Ct_mono h ?_)
  rintro _ s1 ⟨v2, rfl, h⟩
  show X κ 7 [(0, .int a0)] [.int v2] s1
  exact X_zret C Z rfl h.1 dX7_isWord_7 h.2
set_option maxHeartbeats 4000000 in
set_option maxRecDepth 100000 in
theorem eX7_isCount {d : Nat} {Q : Option Value → xSt → Prop} (a1 : Int32) (st : xSt) (h : Ct d M_X7_in [.int a1, .int 0, .int ((st.1 7 0) - 1)] st (Qi fun v2 s1 => (v2 = 0 ∨ v2 = 1) ∧ Q (some (.int v2)) s1)) : Ct (d + 1) M_X7_isCount [.ref 7, .int a1] st Q := by
  refine Ct_of (by decide +kernel) (Nat.le_of_ble_eq_true rfl) (fun κ C Z => ?_)
  show X κ 0 [(0, .ref 7), (1, .int a1)] [] st
  refine X_iload_n C dX7_isCount_0 rfl (j := 1) rfl ?_
  refine X_iconst C (v := 0) (by decide) dX7_isCount_1 ?_
  refine X_aload_n C dX7_isCount_2 rfl (j := 0) rfl ?_
  refine X_getI C sh_7 rfl fw_RX7_79 dX7_isCount_3 ?_
  refine X_iconst C (v := 1) (by decide) dX7_isCount_6 ?_
  refine X_isub C dX7_isCount_7 ?_
  refine X_callS C dX7_isCount_8 pw_RX7_75 (as := [.int a1, .int 0, .int ((st.1 7 0) - 1)]) (S := []) rfl rfl (Nat.le_of_ble_eq_true rfl) (Ct_mono h ?_)
  rintro _ s1 ⟨v2, rfl, h⟩
  show X κ 11 [(0, .ref 7), (1, .int a1)] [.int v2] s1
  exact X_zret C Z rfl h.1 dX7_isCount_11 h.2
set_option maxHeartbeats 4000000 in
set_option maxRecDepth 100000 in
theorem bX7_countBy_68 {κ : xK} {d : Nat} {Q : Option Value → xSt → Prop} (C : Cx κ M_X7_countBy (d + 1)) (Z : xR κ Q) (x1 : Int32) (x2 : Int32) (x3 : Int32) (x4 : Int32) (x5 : Int32) (st : xSt) (h : ((x4 ≤ x5 → ((¬ (st.1 7 0) = 6 → X κ 172 [(0, .ref 7), (1, .int x1), (2, .int x2), (3, .int x3), (4, .int x4), (5, .int 0)] [] st) ∧ ((st.1 7 0) = 6 → Q (some (.int ((-4)))) st))) ∧ (¬ x4 ≤ x5 → vp_in ((60 * x1) + x5) 240 ∧ X κ 95 [(0, .ref 7), (1, .int x1), (2, .int x2), (3, .int x3), (4, .int x4), (5, .int x5), (6, .int (st.1 46 ((60 * x1) + x5 : Int32).toNatClampNeg)), (7, .int 0), (8, .int 0)] [] st))) : X κ 68 [(0, .ref 7), (1, .int x1), (2, .int x2), (3, .int x3), (4, .int x4), (5, .int x5)] [] st := by
  refine X_iload C dX7_countBy_68 (j := 5) rfl ?_
  refine X_iload C dX7_countBy_70 (j := 4) rfl ?_
  refine X_icmp_ge C dX7_countBy_72 (tgt := 157) (by decide) (fun c => ?_) (fun c => ?_)
  · replace h := h.1 c
    refine X_aload_n C dX7_countBy_157 rfl (j := 0) rfl ?_
    refine X_getI C sh_7 rfl fw_RX7_79 dX7_countBy_158 ?_
    refine X_bipush C (v := 6) (by decide) dX7_countBy_161 ?_
    refine X_icmp_ne C dX7_countBy_163 (tgt := 169) (by decide) (fun c => ?_) (fun c => ?_)
    · replace h := h.1 c
      refine X_iconst C (v := 0) (by decide) dX7_countBy_169 ?_
      refine X_istore C dX7_countBy_170 (by decide) (L' := [(5, .int 0), (0, .ref 7), (1, .int x1), (2, .int x2), (3, .int x3), (4, .int x4)]) rfl ?_
      refine X_loc [1, 2, 3, 4, 5, 0] rfl ?_
      exact h
    · replace h := h.2 c
      refine X_bipush C (v := (-4)) (by decide) dX7_countBy_166 ?_
      exact X_iret C Z rfl dX7_countBy_168 h
  · replace h := h.2 c
    refine X_aload_n C dX7_countBy_75 rfl (j := 0) rfl ?_
    refine X_getR C sh_7 rfl fw_RX7_69 dX7_countBy_76 ?_
    refine X_bipush C (v := 60) (by decide) dX7_countBy_79 ?_
    refine X_iload_n C dX7_countBy_81 rfl (j := 1) rfl ?_
    refine X_imul C dX7_countBy_82 ?_
    refine X_iload C dX7_countBy_83 (j := 5) rfl ?_
    refine X_iadd C dX7_countBy_85 ?_
    obtain ⟨g1, h⟩ := h
    refine X_iald C sh_46 g1 dX7_countBy_86 ?_
    refine X_istore C dX7_countBy_87 (by decide) (L' := [(6, .int (st.1 46 ((60 * x1) + x5 : Int32).toNatClampNeg)), (0, .ref 7), (1, .int x1), (2, .int x2), (3, .int x3), (4, .int x4), (5, .int x5)]) rfl ?_
    refine X_iconst C (v := 0) (by decide) dX7_countBy_89 ?_
    refine X_istore C dX7_countBy_90 (by decide) (L' := [(7, .int 0), (6, .int (st.1 46 ((60 * x1) + x5 : Int32).toNatClampNeg)), (0, .ref 7), (1, .int x1), (2, .int x2), (3, .int x3), (4, .int x4), (5, .int x5)]) rfl ?_
    refine X_iconst C (v := 0) (by decide) dX7_countBy_92 ?_
    refine X_istore C dX7_countBy_93 (by decide) (L' := [(8, .int 0), (7, .int 0), (6, .int (st.1 46 ((60 * x1) + x5 : Int32).toNatClampNeg)), (0, .ref 7), (1, .int x1), (2, .int x2), (3, .int x3), (4, .int x4), (5, .int x5)]) rfl ?_
    refine X_loc [3, 4, 5, 6, 7, 8, 2, 1, 0] rfl ?_
    exact h
set_option maxHeartbeats 4000000 in
set_option maxRecDepth 100000 in
theorem bX7_countBy_95 {κ : xK} {d : Nat} {Q : Option Value → xSt → Prop} (C : Cx κ M_X7_countBy (d + 1)) (Z : xR κ Q) (x1 : Int32) (x2 : Int32) (x3 : Int32) (x4 : Int32) (x5 : Int32) (x6 : Int32) (x7 : Int32) (x8 : Int32) (st : xSt) (h : ((x5 ≤ x8 → Ct d M_X7_isWord [.int x6] st (Qi fun v2 s1 => ((v2 = 0 → Q (some (.int ((-3)))) s1) ∧ (¬ v2 = 0 → ((x7 = 0 → X κ 68 [(0, .ref 7), (1, .int x1), (2, .int x2), (3, .int x3), (4, .int x4), (5, .int (x5 + 1))] [] s1) ∧ (¬ x7 = 0 → Q (some (.int ((-3)))) s1)))))) ∧ (¬ x5 ≤ x8 → vp_in ((60 * x1) + x8) 240 ∧ ((¬ (st.1 46 ((60 * x1) + x8 : Int32).toNatClampNeg) = x6 → X κ 95 [(0, .ref 7), (1, .int x1), (2, .int x2), (3, .int x3), (4, .int x4), (5, .int x5), (6, .int x6), (7, .int (x7 ||| 0)), (8, .int (x8 + 1))] [] st) ∧ ((st.1 46 ((60 * x1) + x8 : Int32).toNatClampNeg) = x6 → X κ 95 [(0, .ref 7), (1, .int x1), (2, .int x2), (3, .int x3), (4, .int x4), (5, .int x5), (6, .int x6), (7, .int (x7 ||| 1)), (8, .int (x8 + 1))] [] st))))) : X κ 95 [(0, .ref 7), (1, .int x1), (2, .int x2), (3, .int x3), (4, .int x4), (5, .int x5), (6, .int x6), (7, .int x7), (8, .int x8)] [] st := by
  refine X_iload C dX7_countBy_95 (j := 8) rfl ?_
  refine X_iload C dX7_countBy_97 (j := 5) rfl ?_
  refine X_icmp_ge C dX7_countBy_99 (tgt := 135) (by decide) (fun c => ?_) (fun c => ?_)
  · replace h := h.1 c
    refine X_iload C dX7_countBy_135 (j := 6) rfl ?_
    refine X_callS C dX7_countBy_137 pw_RX7_90 (as := [.int x6]) (S := []) rfl rfl (Nat.le_of_ble_eq_true rfl) (Ct_mono h ?_)
    rintro _ s1 ⟨v2, rfl, h⟩
    show X κ 140 [(0, .ref 7), (1, .int x1), (2, .int x2), (3, .int x3), (4, .int x4), (5, .int x5), (6, .int x6), (7, .int x7), (8, .int x8)] [.int v2] s1
    refine X_if_eq C dX7_countBy_140 (tgt := 148) (by decide) (fun c => ?_) (fun c => ?_)
    · replace h := h.1 c
      refine X_bipush C (v := (-3)) (by decide) dX7_countBy_148 ?_
      exact X_iret C Z rfl dX7_countBy_150 h
    · replace h := h.2 c
      refine X_iload C dX7_countBy_143 (j := 7) rfl ?_
      refine X_if_eq C dX7_countBy_145 (tgt := 151) (by decide) (fun c => ?_) (fun c => ?_)
      · replace h := h.1 c
        refine X_iinc C dX7_countBy_151 (j := 5) rfl (v := x5 + 1) rfl (by decide) (L' := [(5, .int (x5 + 1)), (0, .ref 7), (1, .int x1), (2, .int x2), (3, .int x3), (4, .int x4), (6, .int x6), (7, .int x7), (8, .int x8)]) rfl ?_
        refine X_goto C dX7_countBy_154 (tgt := 68) (by decide) ?_
        refine X_loc [1, 2, 3, 4, 5, 0] rfl ?_
        exact h
      · replace h := h.2 c
        refine X_bipush C (v := (-3)) (by decide) dX7_countBy_148 ?_
        exact X_iret C Z rfl dX7_countBy_150 h
  · replace h := h.2 c
    refine X_iload C dX7_countBy_102 (j := 7) rfl ?_
    refine X_aload_n C dX7_countBy_104 rfl (j := 0) rfl ?_
    refine X_getR C sh_7 rfl fw_RX7_69 dX7_countBy_105 ?_
    refine X_bipush C (v := 60) (by decide) dX7_countBy_108 ?_
    refine X_iload_n C dX7_countBy_110 rfl (j := 1) rfl ?_
    refine X_imul C dX7_countBy_111 ?_
    refine X_iload C dX7_countBy_112 (j := 8) rfl ?_
    refine X_iadd C dX7_countBy_114 ?_
    obtain ⟨g3, h⟩ := h
    refine X_iald C sh_46 g3 dX7_countBy_115 ?_
    refine X_iload C dX7_countBy_116 (j := 6) rfl ?_
    refine X_icmp_ne C dX7_countBy_118 (tgt := 125) (by decide) (fun c => ?_) (fun c => ?_)
    · replace h := h.1 c
      refine X_iconst C (v := 0) (by decide) dX7_countBy_125 ?_
      refine X_ior C dX7_countBy_126 ?_
      refine X_istore C dX7_countBy_127 (by decide) (L' := [(7, .int (x7 ||| 0)), (0, .ref 7), (1, .int x1), (2, .int x2), (3, .int x3), (4, .int x4), (5, .int x5), (6, .int x6), (8, .int x8)]) rfl ?_
      refine X_iinc C dX7_countBy_129 (j := 8) rfl (v := x8 + 1) rfl (by decide) (L' := [(8, .int (x8 + 1)), (7, .int (x7 ||| 0)), (0, .ref 7), (1, .int x1), (2, .int x2), (3, .int x3), (4, .int x4), (5, .int x5), (6, .int x6)]) rfl ?_
      refine X_goto C dX7_countBy_132 (tgt := 95) (by decide) ?_
      refine X_loc [2, 3, 4, 5, 6, 7, 8, 1, 0] rfl ?_
      exact h
    · replace h := h.2 c
      refine X_iconst C (v := 1) (by decide) dX7_countBy_121 ?_
      refine X_goto C dX7_countBy_122 (tgt := 126) (by decide) ?_
      refine X_ior C dX7_countBy_126 ?_
      refine X_istore C dX7_countBy_127 (by decide) (L' := [(7, .int (x7 ||| 1)), (0, .ref 7), (1, .int x1), (2, .int x2), (3, .int x3), (4, .int x4), (5, .int x5), (6, .int x6), (8, .int x8)]) rfl ?_
      refine X_iinc C dX7_countBy_129 (j := 8) rfl (v := x8 + 1) rfl (by decide) (L' := [(8, .int (x8 + 1)), (7, .int (x7 ||| 1)), (0, .ref 7), (1, .int x1), (2, .int x2), (3, .int x3), (4, .int x4), (5, .int x5), (6, .int x6)]) rfl ?_
      refine X_goto C dX7_countBy_132 (tgt := 95) (by decide) ?_
      refine X_loc [2, 3, 4, 5, 6, 7, 8, 1, 0] rfl ?_
      exact h
set_option maxHeartbeats 4000000 in
set_option maxRecDepth 100000 in
theorem bX7_countBy_172 {κ : xK} {d : Nat} {Q : Option Value → xSt → Prop} (C : Cx κ M_X7_countBy (d + 1)) (Z : xR κ Q) (x1 : Int32) (x2 : Int32) (x3 : Int32) (x4 : Int32) (x5 : Int32) (st : xSt) (h : ((x4 ≤ x5 → vp_in (st.1 7 0) 6 ∧ vp_in ((xup st 29 (st.1 7 0 : Int32).toNatClampNeg x2).1 7 0) 6 ∧ vp_in ((xup (xup st 29 (st.1 7 0 : Int32).toNatClampNeg x2) 30 ((xup st 29 (st.1 7 0 : Int32).toNatClampNeg x2).1 7 0 : Int32).toNatClampNeg (vp_nar .boolean x3)).1 7 0) 6 ∧ Q (some (.int (((xup (xup (xup (xup st 29 (st.1 7 0 : Int32).toNatClampNeg x2) 30 ((xup st 29 (st.1 7 0 : Int32).toNatClampNeg x2).1 7 0 : Int32).toNatClampNeg (vp_nar .boolean x3)) 31 ((xup (xup st 29 (st.1 7 0 : Int32).toNatClampNeg x2) 30 ((xup st 29 (st.1 7 0 : Int32).toNatClampNeg x2).1 7 0 : Int32).toNatClampNeg (vp_nar .boolean x3)).1 7 0 : Int32).toNatClampNeg 0) 7 0 (((xup (xup (xup st 29 (st.1 7 0 : Int32).toNatClampNeg x2) 30 ((xup st 29 (st.1 7 0 : Int32).toNatClampNeg x2).1 7 0 : Int32).toNatClampNeg (vp_nar .boolean x3)) 31 ((xup (xup st 29 (st.1 7 0 : Int32).toNatClampNeg x2) 30 ((xup st 29 (st.1 7 0 : Int32).toNatClampNeg x2).1 7 0 : Int32).toNatClampNeg (vp_nar .boolean x3)).1 7 0 : Int32).toNatClampNeg 0).1 7 0) + 1)).1 7 0) - 1))) (xup (xup (xup (xup st 29 (st.1 7 0 : Int32).toNatClampNeg x2) 30 ((xup st 29 (st.1 7 0 : Int32).toNatClampNeg x2).1 7 0 : Int32).toNatClampNeg (vp_nar .boolean x3)) 31 ((xup (xup st 29 (st.1 7 0 : Int32).toNatClampNeg x2) 30 ((xup st 29 (st.1 7 0 : Int32).toNatClampNeg x2).1 7 0 : Int32).toNatClampNeg (vp_nar .boolean x3)).1 7 0 : Int32).toNatClampNeg 0) 7 0 (((xup (xup (xup st 29 (st.1 7 0 : Int32).toNatClampNeg x2) 30 ((xup st 29 (st.1 7 0 : Int32).toNatClampNeg x2).1 7 0 : Int32).toNatClampNeg (vp_nar .boolean x3)) 31 ((xup (xup st 29 (st.1 7 0 : Int32).toNatClampNeg x2) 30 ((xup st 29 (st.1 7 0 : Int32).toNatClampNeg x2).1 7 0 : Int32).toNatClampNeg (vp_nar .boolean x3)).1 7 0 : Int32).toNatClampNeg 0).1 7 0) + 1))) ∧ (¬ x4 ≤ x5 → vp_in ((60 * x1) + x5) 240 ∧ vp_in ((21 * (st.1 7 0)) + x5) 126 ∧ X κ 172 [(0, .ref 7), (1, .int x1), (2, .int x2), (3, .int x3), (4, .int x4), (5, .int (x5 + 1))] [] (xup st 28 ((21 * (st.1 7 0)) + x5 : Int32).toNatClampNeg (st.1 46 ((60 * x1) + x5 : Int32).toNatClampNeg))))) : X κ 172 [(0, .ref 7), (1, .int x1), (2, .int x2), (3, .int x3), (4, .int x4), (5, .int x5)] [] st := by
  refine X_iload C dX7_countBy_172 (j := 5) rfl ?_
  refine X_iload C dX7_countBy_174 (j := 4) rfl ?_
  refine X_icmp_ge C dX7_countBy_176 (tgt := 212) (by decide) (fun c => ?_) (fun c => ?_)
  · replace h := h.1 c
    refine X_aload_n C dX7_countBy_212 rfl (j := 0) rfl ?_
    refine X_getR C sh_7 rfl fw_RX7_13 dX7_countBy_213 ?_
    refine X_aload_n C dX7_countBy_216 rfl (j := 0) rfl ?_
    refine X_getI C sh_7 rfl fw_RX7_79 dX7_countBy_217 ?_
    refine X_iload_n C dX7_countBy_220 rfl (j := 2) rfl ?_
    obtain ⟨g1, h⟩ := h
    refine X_iast C sh_29 g1 dX7_countBy_221 ?_
    refine X_aload_n C dX7_countBy_222 rfl (j := 0) rfl ?_
    refine X_getR C sh_7 rfl fw_RX7_16 dX7_countBy_223 ?_
    refine X_aload_n C dX7_countBy_226 rfl (j := 0) rfl ?_
    refine X_getI C sh_7 rfl fw_RX7_79 dX7_countBy_227 ?_
    refine X_iload_n C dX7_countBy_230 rfl (j := 3) rfl ?_
    obtain ⟨g2, h⟩ := h
    refine X_zast C sh_30 g2 dX7_countBy_231 ?_
    refine X_aload_n C dX7_countBy_232 rfl (j := 0) rfl ?_
    refine X_getR C sh_7 rfl fw_RX7_20 dX7_countBy_233 ?_
    refine X_aload_n C dX7_countBy_236 rfl (j := 0) rfl ?_
    refine X_getI C sh_7 rfl fw_RX7_79 dX7_countBy_237 ?_
    refine X_iconst C (v := 0) (by decide) dX7_countBy_240 ?_
    obtain ⟨g3, h⟩ := h
    refine X_iast C sh_31 g3 dX7_countBy_241 ?_
    refine X_aload_n C dX7_countBy_242 rfl (j := 0) rfl ?_
    refine X_dup C rfl dX7_countBy_243 ?_
    refine X_getI C sh_7 rfl fw_RX7_79 dX7_countBy_244 ?_
    refine X_iconst C (v := 1) (by decide) dX7_countBy_247 ?_
    refine X_iadd C dX7_countBy_248 ?_
    refine X_putI C sh_7 rfl fp_RX7_79 dX7_countBy_249 ?_
    refine X_aload_n C dX7_countBy_252 rfl (j := 0) rfl ?_
    refine X_getI C sh_7 rfl fw_RX7_79 dX7_countBy_253 ?_
    refine X_iconst C (v := 1) (by decide) dX7_countBy_256 ?_
    refine X_isub C dX7_countBy_257 ?_
    exact X_iret C Z rfl dX7_countBy_258 h
  · replace h := h.2 c
    refine X_aload_n C dX7_countBy_179 rfl (j := 0) rfl ?_
    refine X_getR C sh_7 rfl fw_RX7_7 dX7_countBy_180 ?_
    refine X_bipush C (v := 21) (by decide) dX7_countBy_183 ?_
    refine X_aload_n C dX7_countBy_185 rfl (j := 0) rfl ?_
    refine X_getI C sh_7 rfl fw_RX7_79 dX7_countBy_186 ?_
    refine X_imul C dX7_countBy_189 ?_
    refine X_iload C dX7_countBy_190 (j := 5) rfl ?_
    refine X_iadd C dX7_countBy_192 ?_
    refine X_aload_n C dX7_countBy_193 rfl (j := 0) rfl ?_
    refine X_getR C sh_7 rfl fw_RX7_69 dX7_countBy_194 ?_
    refine X_bipush C (v := 60) (by decide) dX7_countBy_197 ?_
    refine X_iload_n C dX7_countBy_199 rfl (j := 1) rfl ?_
    refine X_imul C dX7_countBy_200 ?_
    refine X_iload C dX7_countBy_201 (j := 5) rfl ?_
    refine X_iadd C dX7_countBy_203 ?_
    obtain ⟨g4, h⟩ := h
    refine X_iald C sh_46 g4 dX7_countBy_204 ?_
    obtain ⟨g5, h⟩ := h
    refine X_iast C sh_28 g5 dX7_countBy_205 ?_
    refine X_iinc C dX7_countBy_206 (j := 5) rfl (v := x5 + 1) rfl (by decide) (L' := [(5, .int (x5 + 1)), (0, .ref 7), (1, .int x1), (2, .int x2), (3, .int x3), (4, .int x4)]) rfl ?_
    refine X_goto C dX7_countBy_209 (tgt := 172) (by decide) ?_
    refine X_loc [1, 2, 3, 4, 5, 0] rfl ?_
    exact h
set_option maxHeartbeats 4000000 in
set_option maxRecDepth 100000 in
theorem eX7_countBy {d : Nat} {Q : Option Value → xSt → Prop} (a1 : Int32) (a2 : Int32) (a3 : Int32) (st : xSt) (h : ∀ κ : xK, Cx κ M_X7_countBy (d + 1) → xR κ Q → Ct d M_X7_isSheet [.int a1] st (Qi fun v2 s1 => ((v2 = 0 → Q (some (.int ((-2)))) s1) ∧ (¬ v2 = 0 → Ct d M_X7_in [.int a2, .int 1, .int 20] s1 (Qi fun v4 s3 => ((¬ v4 = 0 → vp_in a1 4 ∧ ((¬ (s3.1 43 (a1 : Int32).toNatClampNeg) = 0 → ((a3 = 0 → vp_in a1 4 ∧ (((a2 + 0) ≤ (s3.1 45 (a1 : Int32).toNatClampNeg) → X κ 68 [(0, .ref 7), (1, .int a1), (2, .int a2), (3, .int a3), (4, .int (a2 + 0)), (5, .int 0)] [] s3) ∧ (¬ (a2 + 0) ≤ (s3.1 45 (a1 : Int32).toNatClampNeg) → Ct d M_X7_meets [.ref 7, .int 2] s3 (Qi fun v8 s7 => Q (some (.int v8)) s7)))) ∧ (¬ a3 = 0 → vp_in a1 4 ∧ (((a2 + 1) ≤ (s3.1 45 (a1 : Int32).toNatClampNeg) → X κ 68 [(0, .ref 7), (1, .int a1), (2, .int a2), (3, .int a3), (4, .int (a2 + 1)), (5, .int 0)] [] s3) ∧ (¬ (a2 + 1) ≤ (s3.1 45 (a1 : Int32).toNatClampNeg) → Ct d M_X7_meets [.ref 7, .int 2] s3 (Qi fun v11 s10 => Q (some (.int v11)) s10)))))) ∧ ((s3.1 43 (a1 : Int32).toNatClampNeg) = 0 → Ct d M_X7_meets [.ref 7, .int 1] s3 (Qi fun v13 s12 => Q (some (.int v13)) s12)))) ∧ (v4 = 0 → Q (some (.int ((-2)))) s3))))))) : Ct (d + 1) M_X7_countBy [.ref 7, .int a1, .int a2, .int a3] st Q := by
  refine Ct_of (by decide +kernel) (Nat.le_of_ble_eq_true rfl) (fun κ C Z => ?_)
  replace h := h κ C Z
  show X κ 0 [(0, .ref 7), (1, .int a1), (2, .int a2), (3, .int a3)] [] st
  refine X_iload_n C dX7_countBy_0 rfl (j := 1) rfl ?_
  refine X_callS C dX7_countBy_1 pw_RX7_82 (as := [.int a1]) (S := []) rfl rfl (Nat.le_of_ble_eq_true rfl) (Ct_mono h ?_)
  rintro _ s1 ⟨v2, rfl, h⟩
  show X κ 4 [(0, .ref 7), (1, .int a1), (2, .int a2), (3, .int a3)] [.int v2] s1
  refine X_if_eq C dX7_countBy_4 (tgt := 17) (by decide) (fun c => ?_) (fun c => ?_)
  · replace h := h.1 c
    refine X_bipush C (v := (-2)) (by decide) dX7_countBy_17 ?_
    exact X_iret C Z rfl dX7_countBy_19 h
  · replace h := h.2 c
    refine X_iload_n C dX7_countBy_7 rfl (j := 2) rfl ?_
    refine X_iconst C (v := 1) (by decide) dX7_countBy_8 ?_
    refine X_bipush C (v := 20) (by decide) dX7_countBy_9 ?_
    refine X_callS C dX7_countBy_11 pw_RX7_75 (as := [.int a2, .int 1, .int 20]) (S := []) rfl rfl (Nat.le_of_ble_eq_true rfl) (Ct_mono h ?_)
    rintro _ s3 ⟨v4, rfl, h⟩
    show X κ 14 [(0, .ref 7), (1, .int a1), (2, .int a2), (3, .int a3)] [.int v4] s3
    refine X_if_ne C dX7_countBy_14 (tgt := 20) (by decide) (fun c => ?_) (fun c => ?_)
    · replace h := h.1 c
      refine X_aload_n C dX7_countBy_20 rfl (j := 0) rfl ?_
      refine X_getR C sh_7 rfl fw_RX7_60 dX7_countBy_21 ?_
      refine X_iload_n C dX7_countBy_24 rfl (j := 1) rfl ?_
      obtain ⟨g5, h⟩ := h
      refine X_zald C sh_43 g5 dX7_countBy_25 ?_
      refine X_if_ne C dX7_countBy_26 (tgt := 35) (by decide) (fun c => ?_) (fun c => ?_)
      · replace h := h.1 c
        refine X_iload_n C dX7_countBy_35 rfl (j := 2) rfl ?_
        refine X_iload_n C dX7_countBy_36 rfl (j := 3) rfl ?_
        refine X_if_eq C dX7_countBy_37 (tgt := 44) (by decide) (fun c => ?_) (fun c => ?_)
        · replace h := h.1 c
          refine X_iconst C (v := 0) (by decide) dX7_countBy_44 ?_
          refine X_iadd C dX7_countBy_45 ?_
          refine X_istore C dX7_countBy_46 (by decide) (L' := [(4, .int (a2 + 0)), (0, .ref 7), (1, .int a1), (2, .int a2), (3, .int a3)]) rfl ?_
          refine X_aload_n C dX7_countBy_48 rfl (j := 1) rfl ?_
          refine X_getR C sh_7 rfl fw_RX7_66 dX7_countBy_49 ?_
          refine X_iload_n C dX7_countBy_52 rfl (j := 2) rfl ?_
          obtain ⟨g6, h⟩ := h
          refine X_iald C sh_45 g6 dX7_countBy_53 ?_
          refine X_iload C dX7_countBy_54 (j := 0) rfl ?_
          refine X_icmp_ge C dX7_countBy_56 (tgt := 65) (by decide) (fun c => ?_) (fun c => ?_)
          · replace h := h.1 c
            refine X_iconst C (v := 0) (by decide) dX7_countBy_65 ?_
            refine X_istore C dX7_countBy_66 (by decide) (L' := [(5, .int 0), (4, .int (a2 + 0)), (0, .ref 7), (1, .int a1), (2, .int a2), (3, .int a3)]) rfl ?_
            refine X_loc [2, 3, 4, 5, 1, 0] rfl ?_
            exact h
          · replace h := h.2 c
            refine X_aload_n C dX7_countBy_59 rfl (j := 1) rfl ?_
            refine X_iconst C (v := 2) (by decide) dX7_countBy_60 ?_
            refine X_callV C dX7_countBy_61 pw_RX7_86 (b := 7) (as := [.int 2]) (S := []) sh_7 rfl rfl rfl (Nat.le_of_ble_eq_true rfl) (Ct_mono h ?_)
            rintro _ s7 ⟨v8, rfl, h⟩
            show X κ 64 [(4, .int (a2 + 0)), (0, .ref 7), (1, .int a1), (2, .int a2), (3, .int a3)] [.int v8] s7
            exact X_iret C Z rfl dX7_countBy_64 h
        · replace h := h.2 c
          refine X_iconst C (v := 1) (by decide) dX7_countBy_40 ?_
          refine X_goto C dX7_countBy_41 (tgt := 45) (by decide) ?_
          refine X_iadd C dX7_countBy_45 ?_
          refine X_istore C dX7_countBy_46 (by decide) (L' := [(4, .int (a2 + 1)), (0, .ref 7), (1, .int a1), (2, .int a2), (3, .int a3)]) rfl ?_
          refine X_aload_n C dX7_countBy_48 rfl (j := 1) rfl ?_
          refine X_getR C sh_7 rfl fw_RX7_66 dX7_countBy_49 ?_
          refine X_iload_n C dX7_countBy_52 rfl (j := 2) rfl ?_
          obtain ⟨g9, h⟩ := h
          refine X_iald C sh_45 g9 dX7_countBy_53 ?_
          refine X_iload C dX7_countBy_54 (j := 0) rfl ?_
          refine X_icmp_ge C dX7_countBy_56 (tgt := 65) (by decide) (fun c => ?_) (fun c => ?_)
          · replace h := h.1 c
            refine X_iconst C (v := 0) (by decide) dX7_countBy_65 ?_
            refine X_istore C dX7_countBy_66 (by decide) (L' := [(5, .int 0), (4, .int (a2 + 1)), (0, .ref 7), (1, .int a1), (2, .int a2), (3, .int a3)]) rfl ?_
            refine X_loc [2, 3, 4, 5, 1, 0] rfl ?_
            exact h
          · replace h := h.2 c
            refine X_aload_n C dX7_countBy_59 rfl (j := 1) rfl ?_
            refine X_iconst C (v := 2) (by decide) dX7_countBy_60 ?_
            refine X_callV C dX7_countBy_61 pw_RX7_86 (b := 7) (as := [.int 2]) (S := []) sh_7 rfl rfl rfl (Nat.le_of_ble_eq_true rfl) (Ct_mono h ?_)
            rintro _ s10 ⟨v11, rfl, h⟩
            show X κ 64 [(4, .int (a2 + 1)), (0, .ref 7), (1, .int a1), (2, .int a2), (3, .int a3)] [.int v11] s10
            exact X_iret C Z rfl dX7_countBy_64 h
      · replace h := h.2 c
        refine X_aload_n C dX7_countBy_29 rfl (j := 0) rfl ?_
        refine X_iconst C (v := 1) (by decide) dX7_countBy_30 ?_
        refine X_callV C dX7_countBy_31 pw_RX7_86 (b := 7) (as := [.int 1]) (S := []) sh_7 rfl rfl rfl (Nat.le_of_ble_eq_true rfl) (Ct_mono h ?_)
        rintro _ s12 ⟨v13, rfl, h⟩
        show X κ 34 [(0, .ref 7), (1, .int a1), (2, .int a2), (3, .int a3)] [.int v13] s12
        exact X_iret C Z rfl dX7_countBy_34 h
    · replace h := h.2 c
      refine X_bipush C (v := (-2)) (by decide) dX7_countBy_17 ?_
      exact X_iret C Z rfl dX7_countBy_19 h
set_option maxHeartbeats 4000000 in
set_option maxRecDepth 100000 in
theorem eX7_begins {d : Nat} {Q : Option Value → xSt → Prop} (a1 : Int32) (a2 : Int32) (st : xSt) (h : Ct d M_X7_isCount [.ref 7, .int a1] st (Qi fun v2 s1 => ((v2 = 0 → Q (some (.int ((-2)))) s1) ∧ (¬ v2 = 0 → Ct d M_X7_in [.int a2, .int 0, .int 1] s1 (Qi fun v4 s3 => ((¬ v4 = 0 → vp_in a1 6 ∧ vp_in a1 6 ∧ Q (some (.int (s3.1 31 (a1 : Int32).toNatClampNeg))) (xup s3 31 (a1 : Int32).toNatClampNeg a2)) ∧ (v4 = 0 → Q (some (.int ((-2)))) s3))))))) : Ct (d + 1) M_X7_begins [.ref 7, .int a1, .int a2] st Q := by
  refine Ct_of (by decide +kernel) (Nat.le_of_ble_eq_true rfl) (fun κ C Z => ?_)
  show X κ 0 [(0, .ref 7), (1, .int a1), (2, .int a2)] [] st
  refine X_aload_n C dX7_begins_0 rfl (j := 0) rfl ?_
  refine X_iload_n C dX7_begins_1 rfl (j := 1) rfl ?_
  refine X_callV C dX7_begins_2 pw_RX7_93 (b := 7) (as := [.int a1]) (S := []) sh_7 rfl rfl rfl (Nat.le_of_ble_eq_true rfl) (Ct_mono h ?_)
  rintro _ s1 ⟨v2, rfl, h⟩
  show X κ 5 [(0, .ref 7), (1, .int a1), (2, .int a2)] [.int v2] s1
  refine X_if_eq C dX7_begins_5 (tgt := 17) (by decide) (fun c => ?_) (fun c => ?_)
  · replace h := h.1 c
    refine X_bipush C (v := (-2)) (by decide) dX7_begins_17 ?_
    exact X_iret C Z rfl dX7_begins_19 h
  · replace h := h.2 c
    refine X_iload_n C dX7_begins_8 rfl (j := 2) rfl ?_
    refine X_iconst C (v := 0) (by decide) dX7_begins_9 ?_
    refine X_iconst C (v := 1) (by decide) dX7_begins_10 ?_
    refine X_callS C dX7_begins_11 pw_RX7_75 (as := [.int a2, .int 0, .int 1]) (S := []) rfl rfl (Nat.le_of_ble_eq_true rfl) (Ct_mono h ?_)
    rintro _ s3 ⟨v4, rfl, h⟩
    show X κ 14 [(0, .ref 7), (1, .int a1), (2, .int a2)] [.int v4] s3
    refine X_if_ne C dX7_begins_14 (tgt := 20) (by decide) (fun c => ?_) (fun c => ?_)
    · replace h := h.1 c
      refine X_aload_n C dX7_begins_20 rfl (j := 0) rfl ?_
      refine X_getR C sh_7 rfl fw_RX7_20 dX7_begins_21 ?_
      refine X_iload_n C dX7_begins_24 rfl (j := 1) rfl ?_
      obtain ⟨g5, h⟩ := h
      refine X_iald C sh_31 g5 dX7_begins_25 ?_
      refine X_istore_n C dX7_begins_26 rfl (by decide) (L' := [(3, .int (s3.1 31 (a1 : Int32).toNatClampNeg)), (0, .ref 7), (1, .int a1), (2, .int a2)]) rfl ?_
      refine X_aload_n C dX7_begins_27 rfl (j := 1) rfl ?_
      refine X_getR C sh_7 rfl fw_RX7_20 dX7_begins_28 ?_
      refine X_iload_n C dX7_begins_31 rfl (j := 2) rfl ?_
      refine X_iload_n C dX7_begins_32 rfl (j := 3) rfl ?_
      obtain ⟨g6, h⟩ := h
      refine X_iast C sh_31 g6 dX7_begins_33 ?_
      refine X_iload_n C dX7_begins_34 rfl (j := 0) rfl ?_
      exact X_iret C Z rfl dX7_begins_35 h
    · replace h := h.2 c
      refine X_bipush C (v := (-2)) (by decide) dX7_begins_17 ?_
      exact X_iret C Z rfl dX7_begins_19 h
set_option maxHeartbeats 4000000 in
set_option maxRecDepth 100000 in
theorem eX7_totalOf {d : Nat} {Q : Option Value → xSt → Prop} (a1 : Int32) (st : xSt) (h : vp_in a1 6 ∧ vp_in a1 6 ∧ (((st.1 30 (a1 : Int32).toNatClampNeg) = 0 → Q (some (.int ((2 * (st.1 29 (a1 : Int32).toNatClampNeg)) + 0))) st) ∧ (¬ (st.1 30 (a1 : Int32).toNatClampNeg) = 0 → Q (some (.int ((2 * (st.1 29 (a1 : Int32).toNatClampNeg)) + 1))) st))) : Ct (d) M_X7_totalOf [.ref 7, .int a1] st Q := by
  refine Ct_of (by decide +kernel) (Nat.le_of_ble_eq_true rfl) (fun κ C Z => ?_)
  show X κ 0 [(0, .ref 7), (1, .int a1)] [] st
  refine X_iconst C (v := 2) (by decide) dX7_totalOf_0 ?_
  refine X_aload_n C dX7_totalOf_1 rfl (j := 0) rfl ?_
  refine X_getR C sh_7 rfl fw_RX7_13 dX7_totalOf_2 ?_
  refine X_iload_n C dX7_totalOf_5 rfl (j := 1) rfl ?_
  obtain ⟨g1, h⟩ := h
  refine X_iald C sh_29 g1 dX7_totalOf_6 ?_
  refine X_imul C dX7_totalOf_7 ?_
  refine X_aload_n C dX7_totalOf_8 rfl (j := 0) rfl ?_
  refine X_getR C sh_7 rfl fw_RX7_16 dX7_totalOf_9 ?_
  refine X_iload_n C dX7_totalOf_12 rfl (j := 1) rfl ?_
  obtain ⟨g2, h⟩ := h
  refine X_zald C sh_30 g2 dX7_totalOf_13 ?_
  refine X_if_eq C dX7_totalOf_14 (tgt := 21) (by decide) (fun c => ?_) (fun c => ?_)
  · replace h := h.1 c
    refine X_iconst C (v := 0) (by decide) dX7_totalOf_21 ?_
    refine X_iadd C dX7_totalOf_22 ?_
    exact X_iret C Z rfl dX7_totalOf_23 h
  · replace h := h.2 c
    refine X_iconst C (v := 1) (by decide) dX7_totalOf_17 ?_
    refine X_goto C dX7_totalOf_18 (tgt := 22) (by decide) ?_
    refine X_iadd C dX7_totalOf_22 ?_
    exact X_iret C Z rfl dX7_totalOf_23 h
set_option maxHeartbeats 4000000 in
set_option maxRecDepth 100000 in
theorem eX7_aboutOf {d : Nat} {Q : Option Value → xSt → Prop} (a1 : Int32) (a2 : Int32) (st : xSt) (h : (((a2 : Int32).toInt < 0 ∨ 3 < (a2 : Int32).toInt → Q (some (.int ((-2)))) st) ∧ ((a2 : Int32).toInt = 0 → Ct d M_X7_totalOf [.ref 7, .int a1] st (Qi fun v2 s1 => Q (some (.int v2)) s1)) ∧ ((a2 : Int32).toInt = 1 → vp_in a1 6 ∧ Q (some (.int (st.1 29 (a1 : Int32).toNatClampNeg))) st) ∧ ((a2 : Int32).toInt = 2 → vp_in a1 6 ∧ (((st.1 30 (a1 : Int32).toNatClampNeg) = 0 → Q (some (.int 0)) st) ∧ (¬ (st.1 30 (a1 : Int32).toNatClampNeg) = 0 → Q (some (.int 1)) st))) ∧ ((a2 : Int32).toInt = 3 → vp_in a1 6 ∧ Q (some (.int (st.1 31 (a1 : Int32).toNatClampNeg))) st))) : Ct (d + 1) M_X7_aboutOf [.ref 7, .int a1, .int a2] st Q := by
  refine Ct_of (by decide +kernel) (Nat.le_of_ble_eq_true rfl) (fun κ C Z => ?_)
  show X κ 0 [(0, .ref 7), (1, .int a1), (2, .int a2)] [] st
  refine X_iload_n C dX7_aboutOf_0 rfl (j := 2) rfl ?_
  have hc : ((a2 : Int32).toInt < 0 ∨ 3 < (a2 : Int32).toInt) ∨ (a2 : Int32).toInt = 0 ∨ (a2 : Int32).toInt = 1 ∨ (a2 : Int32).toInt = 2 ∨ (a2 : Int32).toInt = 3 := by omega
  rcases hc with c | c | c | c | c
  · replace h := h.1 c
    refine X_tableOut C dX7_aboutOf_1 c (tgt := 67) (by decide) ?_
    refine X_bipush C (v := (-2)) (by decide) dX7_aboutOf_67 ?_
    exact X_iret C Z rfl dX7_aboutOf_69 h
  · replace h := h.2.1 c
    refine X_tableIn C dX7_aboutOf_1 (by omega) (by omega) (off := 31) (by rw [c]; rfl) (tgt := 32) (by decide) ?_
    refine X_aload_n C dX7_aboutOf_32 rfl (j := 0) rfl ?_
    refine X_iload_n C dX7_aboutOf_33 rfl (j := 1) rfl ?_
    refine X_callV C dX7_aboutOf_34 pw_RX7_96 (b := 7) (as := [.int a1]) (S := []) sh_7 rfl rfl rfl (Nat.le_of_ble_eq_true rfl) (Ct_mono h ?_)
    rintro _ s1 ⟨v2, rfl, h⟩
    show X κ 37 [(0, .ref 7), (1, .int a1), (2, .int a2)] [.int v2] s1
    exact X_iret C Z rfl dX7_aboutOf_37 h
  · replace h := h.2.2.1 c
    refine X_tableIn C dX7_aboutOf_1 (by omega) (by omega) (off := 37) (by rw [c]; rfl) (tgt := 38) (by decide) ?_
    refine X_aload_n C dX7_aboutOf_38 rfl (j := 0) rfl ?_
    refine X_getR C sh_7 rfl fw_RX7_13 dX7_aboutOf_39 ?_
    refine X_iload_n C dX7_aboutOf_42 rfl (j := 1) rfl ?_
    obtain ⟨g3, h⟩ := h
    refine X_iald C sh_29 g3 dX7_aboutOf_43 ?_
    exact X_iret C Z rfl dX7_aboutOf_44 h
  · replace h := h.2.2.2.1 c
    refine X_tableIn C dX7_aboutOf_1 (by omega) (by omega) (off := 44) (by rw [c]; rfl) (tgt := 45) (by decide) ?_
    refine X_aload_n C dX7_aboutOf_45 rfl (j := 0) rfl ?_
    refine X_getR C sh_7 rfl fw_RX7_16 dX7_aboutOf_46 ?_
    refine X_iload_n C dX7_aboutOf_49 rfl (j := 1) rfl ?_
    obtain ⟨g4, h⟩ := h
    refine X_zald C sh_30 g4 dX7_aboutOf_50 ?_
    refine X_if_eq C dX7_aboutOf_51 (tgt := 58) (by decide) (fun c => ?_) (fun c => ?_)
    · replace h := h.1 c
      refine X_iconst C (v := 0) (by decide) dX7_aboutOf_58 ?_
      exact X_iret C Z rfl dX7_aboutOf_59 h
    · replace h := h.2 c
      refine X_iconst C (v := 1) (by decide) dX7_aboutOf_54 ?_
      refine X_goto C dX7_aboutOf_55 (tgt := 59) (by decide) ?_
      exact X_iret C Z rfl dX7_aboutOf_59 h
  · replace h := h.2.2.2.2 c
    refine X_tableIn C dX7_aboutOf_1 (by omega) (by omega) (off := 59) (by rw [c]; rfl) (tgt := 60) (by decide) ?_
    refine X_aload_n C dX7_aboutOf_60 rfl (j := 0) rfl ?_
    refine X_getR C sh_7 rfl fw_RX7_20 dX7_aboutOf_61 ?_
    refine X_iload_n C dX7_aboutOf_64 rfl (j := 1) rfl ?_
    obtain ⟨g5, h⟩ := h
    refine X_iald C sh_31 g5 dX7_aboutOf_65 ?_
    exact X_iret C Z rfl dX7_aboutOf_66 h
set_option maxHeartbeats 4000000 in
set_option maxRecDepth 100000 in
theorem eX7_about {d : Nat} {Q : Option Value → xSt → Prop} (a1 : Int32) (a2 : Int32) (st : xSt) (h : Ct d M_X7_isCount [.ref 7, .int a1] st (Qi fun v2 s1 => ((v2 = 0 → Q (some (.int ((-2)))) s1) ∧ (¬ v2 = 0 → Ct d M_X7_aboutOf [.ref 7, .int a1, .int a2] s1 (Qi fun v4 s3 => Q (some (.int v4)) s3))))) : Ct (d + 1) M_X7_about [.ref 7, .int a1, .int a2] st Q := by
  refine Ct_of (by decide +kernel) (Nat.le_of_ble_eq_true rfl) (fun κ C Z => ?_)
  show X κ 0 [(0, .ref 7), (1, .int a1), (2, .int a2)] [] st
  refine X_aload_n C dX7_about_0 rfl (j := 0) rfl ?_
  refine X_iload_n C dX7_about_1 rfl (j := 1) rfl ?_
  refine X_callV C dX7_about_2 pw_RX7_93 (b := 7) (as := [.int a1]) (S := []) sh_7 rfl rfl rfl (Nat.le_of_ble_eq_true rfl) (Ct_mono h ?_)
  rintro _ s1 ⟨v2, rfl, h⟩
  show X κ 5 [(0, .ref 7), (1, .int a1), (2, .int a2)] [.int v2] s1
  refine X_if_eq C dX7_about_5 (tgt := 17) (by decide) (fun c => ?_) (fun c => ?_)
  · replace h := h.1 c
    refine X_bipush C (v := (-2)) (by decide) dX7_about_17 ?_
    exact X_iret C Z rfl dX7_about_19 h
  · replace h := h.2 c
    refine X_aload_n C dX7_about_8 rfl (j := 0) rfl ?_
    refine X_iload_n C dX7_about_9 rfl (j := 1) rfl ?_
    refine X_iload_n C dX7_about_10 rfl (j := 2) rfl ?_
    refine X_callV C dX7_about_11 pw_RX7_99 (b := 7) (as := [.int a1, .int a2]) (S := []) sh_7 rfl rfl rfl (Nat.le_of_ble_eq_true rfl) (Ct_mono h ?_)
    rintro _ s3 ⟨v4, rfl, h⟩
    show X κ 14 [(0, .ref 7), (1, .int a1), (2, .int a2)] [.int v4] s3
    refine X_goto C dX7_about_14 (tgt := 19) (by decide) ?_
    exact X_iret C Z rfl dX7_about_19 h
set_option maxHeartbeats 4000000 in
set_option maxRecDepth 100000 in
theorem eX7_sideOf {d : Nat} {Q : Option Value → xSt → Prop} (a1 : Int32) (a2 : Int32) (st : xSt) (h : vp_in a1 6 ∧ (((st.1 29 (a1 : Int32).toNatClampNeg) < a2 → vp_in a1 6 ∧ (((st.1 30 (a1 : Int32).toNatClampNeg) = 0 → Q (some (.int 1)) st) ∧ (¬ (st.1 30 (a1 : Int32).toNatClampNeg) = 0 → vp_in a1 6 ∧ ((¬ a2 = ((st.1 29 (a1 : Int32).toNatClampNeg) + 1) → Q (some (.int 1)) st) ∧ (a2 = ((st.1 29 (a1 : Int32).toNatClampNeg) + 1) → Q (some (.int 2)) st))))) ∧ (¬ (st.1 29 (a1 : Int32).toNatClampNeg) < a2 → Q (some (.int 0)) st))) : Ct (d) M_X7_sideOf [.ref 7, .int a1, .int a2] st Q := by
  refine Ct_of (by decide +kernel) (Nat.le_of_ble_eq_true rfl) (fun κ C Z => ?_)
  show X κ 0 [(0, .ref 7), (1, .int a1), (2, .int a2)] [] st
  refine X_iload_n C dX7_sideOf_0 rfl (j := 2) rfl ?_
  refine X_aload_n C dX7_sideOf_1 rfl (j := 0) rfl ?_
  refine X_getR C sh_7 rfl fw_RX7_13 dX7_sideOf_2 ?_
  refine X_iload_n C dX7_sideOf_5 rfl (j := 1) rfl ?_
  obtain ⟨g1, h⟩ := h
  refine X_iald C sh_29 g1 dX7_sideOf_6 ?_
  refine X_icmp_gt C dX7_sideOf_7 (tgt := 14) (by decide) (fun c => ?_) (fun c => ?_)
  · replace h := h.1 c
    refine X_aload_n C dX7_sideOf_14 rfl (j := 0) rfl ?_
    refine X_getR C sh_7 rfl fw_RX7_16 dX7_sideOf_15 ?_
    refine X_iload_n C dX7_sideOf_18 rfl (j := 1) rfl ?_
    obtain ⟨g2, h⟩ := h
    refine X_zald C sh_30 g2 dX7_sideOf_19 ?_
    refine X_if_eq C dX7_sideOf_20 (tgt := 39) (by decide) (fun c => ?_) (fun c => ?_)
    · replace h := h.1 c
      refine X_iconst C (v := 1) (by decide) dX7_sideOf_39 ?_
      exact X_iret C Z rfl dX7_sideOf_40 h
    · replace h := h.2 c
      refine X_iload_n C dX7_sideOf_23 rfl (j := 2) rfl ?_
      refine X_aload_n C dX7_sideOf_24 rfl (j := 0) rfl ?_
      refine X_getR C sh_7 rfl fw_RX7_13 dX7_sideOf_25 ?_
      refine X_iload_n C dX7_sideOf_28 rfl (j := 1) rfl ?_
      obtain ⟨g3, h⟩ := h
      refine X_iald C sh_29 g3 dX7_sideOf_29 ?_
      refine X_iconst C (v := 1) (by decide) dX7_sideOf_30 ?_
      refine X_iadd C dX7_sideOf_31 ?_
      refine X_icmp_ne C dX7_sideOf_32 (tgt := 39) (by decide) (fun c => ?_) (fun c => ?_)
      · replace h := h.1 c
        refine X_iconst C (v := 1) (by decide) dX7_sideOf_39 ?_
        exact X_iret C Z rfl dX7_sideOf_40 h
      · replace h := h.2 c
        refine X_iconst C (v := 2) (by decide) dX7_sideOf_35 ?_
        refine X_goto C dX7_sideOf_36 (tgt := 40) (by decide) ?_
        exact X_iret C Z rfl dX7_sideOf_40 h
  · replace h := h.2 c
    refine X_iconst C (v := 0) (by decide) dX7_sideOf_10 ?_
    refine X_goto C dX7_sideOf_11 (tgt := 40) (by decide) ?_
    exact X_iret C Z rfl dX7_sideOf_40 h
set_option maxHeartbeats 4000000 in
set_option maxRecDepth 100000 in
theorem eX7_wordOf {d : Nat} {Q : Option Value → xSt → Prop} (a1 : Int32) (a2 : Int32) (st : xSt) (h : Ct d M_X7_sideOf [.ref 7, .int a1, .int a2] st (Qi fun v2 s1 => ((¬ v2 = 0 → ((¬ v2 = 2 → Ct d M_X7_totalOf [.ref 7, .int a1] s1 (Qi fun v4 s3 => vp_in ((21 * a1) + (v4 - a2)) 126 ∧ Q (some (.int (s3.1 28 ((21 * a1) + (v4 - a2) : Int32).toNatClampNeg))) s3)) ∧ (v2 = 2 → vp_in a1 6 ∧ vp_in ((21 * a1) + (s1.1 29 (a1 : Int32).toNatClampNeg)) 126 ∧ Q (some (.int (s1.1 28 ((21 * a1) + (s1.1 29 (a1 : Int32).toNatClampNeg) : Int32).toNatClampNeg))) s1))) ∧ (v2 = 0 → vp_in ((21 * a1) + (a2 - 1)) 126 ∧ Q (some (.int (s1.1 28 ((21 * a1) + (a2 - 1) : Int32).toNatClampNeg))) s1)))) : Ct (d + 1) M_X7_wordOf [.ref 7, .int a1, .int a2] st Q := by
  refine Ct_of (by decide +kernel) (Nat.le_of_ble_eq_true rfl) (fun κ C Z => ?_)
  show X κ 0 [(0, .ref 7), (1, .int a1), (2, .int a2)] [] st
  refine X_aload_n C dX7_wordOf_0 rfl (j := 0) rfl ?_
  refine X_iload_n C dX7_wordOf_1 rfl (j := 1) rfl ?_
  refine X_iload_n C dX7_wordOf_2 rfl (j := 2) rfl ?_
  refine X_callV C dX7_wordOf_3 pw_RX7_103 (b := 7) (as := [.int a1, .int a2]) (S := []) sh_7 rfl rfl rfl (Nat.le_of_ble_eq_true rfl) (Ct_mono h ?_)
  rintro _ s1 ⟨v2, rfl, h⟩
  show X κ 6 [(0, .ref 7), (1, .int a1), (2, .int a2)] [.int v2] s1
  refine X_istore_n C dX7_wordOf_6 rfl (by decide) (L' := [(3, .int v2), (0, .ref 7), (1, .int a1), (2, .int a2)]) rfl ?_
  refine X_aload_n C dX7_wordOf_7 rfl (j := 1) rfl ?_
  refine X_getR C sh_7 rfl fw_RX7_7 dX7_wordOf_8 ?_
  refine X_bipush C (v := 21) (by decide) dX7_wordOf_11 ?_
  refine X_iload_n C dX7_wordOf_13 rfl (j := 2) rfl ?_
  refine X_imul C dX7_wordOf_14 ?_
  refine X_iload_n C dX7_wordOf_15 rfl (j := 0) rfl ?_
  refine X_if_ne C dX7_wordOf_16 (tgt := 25) (by decide) (fun c => ?_) (fun c => ?_)
  · replace h := h.1 c
    refine X_iload_n C dX7_wordOf_25 rfl (j := 0) rfl ?_
    refine X_iconst C (v := 2) (by decide) dX7_wordOf_26 ?_
    refine X_icmp_ne C dX7_wordOf_27 (tgt := 39) (by decide) (fun c => ?_) (fun c => ?_)
    · replace h := h.1 c
      refine X_aload_n C dX7_wordOf_39 rfl (j := 1) rfl ?_
      refine X_iload_n C dX7_wordOf_40 rfl (j := 2) rfl ?_
      refine X_callV C dX7_wordOf_41 pw_RX7_96 (b := 7) (as := [.int a1]) (S := [.int (21 * a1), .ref 28]) sh_7 rfl rfl rfl (Nat.le_of_ble_eq_true rfl) (Ct_mono h ?_)
      rintro _ s3 ⟨v4, rfl, h⟩
      show X κ 44 [(3, .int v2), (0, .ref 7), (1, .int a1), (2, .int a2)] [.int v4, .int (21 * a1), .ref 28] s3
      refine X_iload_n C dX7_wordOf_44 rfl (j := 3) rfl ?_
      refine X_isub C dX7_wordOf_45 ?_
      refine X_iadd C dX7_wordOf_46 ?_
      obtain ⟨g5, h⟩ := h
      refine X_iald C sh_28 g5 dX7_wordOf_47 ?_
      exact X_iret C Z rfl dX7_wordOf_48 h
    · replace h := h.2 c
      refine X_aload_n C dX7_wordOf_30 rfl (j := 1) rfl ?_
      refine X_getR C sh_7 rfl fw_RX7_13 dX7_wordOf_31 ?_
      refine X_iload_n C dX7_wordOf_34 rfl (j := 2) rfl ?_
      obtain ⟨g6, h⟩ := h
      refine X_iald C sh_29 g6 dX7_wordOf_35 ?_
      refine X_goto C dX7_wordOf_36 (tgt := 46) (by decide) ?_
      refine X_iadd C dX7_wordOf_46 ?_
      obtain ⟨g7, h⟩ := h
      refine X_iald C sh_28 g7 dX7_wordOf_47 ?_
      exact X_iret C Z rfl dX7_wordOf_48 h
  · replace h := h.2 c
    refine X_iload_n C dX7_wordOf_19 rfl (j := 3) rfl ?_
    refine X_iconst C (v := 1) (by decide) dX7_wordOf_20 ?_
    refine X_isub C dX7_wordOf_21 ?_
    refine X_goto C dX7_wordOf_22 (tgt := 46) (by decide) ?_
    refine X_iadd C dX7_wordOf_46 ?_
    obtain ⟨g8, h⟩ := h
    refine X_iald C sh_28 g8 dX7_wordOf_47 ?_
    exact X_iret C Z rfl dX7_wordOf_48 h
set_option maxHeartbeats 4000000 in
set_option maxRecDepth 100000 in
theorem eX7_handOf {d : Nat} {Q : Option Value → xSt → Prop} (a1 : Int32) (a2 : Int32) (st : xSt) (h : Ct d M_X7_sideOf [.ref 7, .int a1, .int a2] st (Qi fun v2 s1 => ((¬ v2 = 2 → ((¬ v2 = 0 → vp_in a1 6 ∧ Q (some (.int (1 - (s1.1 31 (a1 : Int32).toNatClampNeg)))) s1) ∧ (v2 = 0 → vp_in a1 6 ∧ Q (some (.int (s1.1 31 (a1 : Int32).toNatClampNeg))) s1))) ∧ (v2 = 2 → Q (some (.int 2)) s1)))) : Ct (d + 1) M_X7_handOf [.ref 7, .int a1, .int a2] st Q := by
  refine Ct_of (by decide +kernel) (Nat.le_of_ble_eq_true rfl) (fun κ C Z => ?_)
  show X κ 0 [(0, .ref 7), (1, .int a1), (2, .int a2)] [] st
  refine X_aload_n C dX7_handOf_0 rfl (j := 0) rfl ?_
  refine X_iload_n C dX7_handOf_1 rfl (j := 1) rfl ?_
  refine X_iload_n C dX7_handOf_2 rfl (j := 2) rfl ?_
  refine X_callV C dX7_handOf_3 pw_RX7_103 (b := 7) (as := [.int a1, .int a2]) (S := []) sh_7 rfl rfl rfl (Nat.le_of_ble_eq_true rfl) (Ct_mono h ?_)
  rintro _ s1 ⟨v2, rfl, h⟩
  show X κ 6 [(0, .ref 7), (1, .int a1), (2, .int a2)] [.int v2] s1
  refine X_istore_n C dX7_handOf_6 rfl (by decide) (L' := [(3, .int v2), (0, .ref 7), (1, .int a1), (2, .int a2)]) rfl ?_
  refine X_iload_n C dX7_handOf_7 rfl (j := 0) rfl ?_
  refine X_iconst C (v := 2) (by decide) dX7_handOf_8 ?_
  refine X_icmp_ne C dX7_handOf_9 (tgt := 16) (by decide) (fun c => ?_) (fun c => ?_)
  · replace h := h.1 c
    refine X_iload_n C dX7_handOf_16 rfl (j := 0) rfl ?_
    refine X_if_ne C dX7_handOf_17 (tgt := 29) (by decide) (fun c => ?_) (fun c => ?_)
    · replace h := h.1 c
      refine X_iconst C (v := 1) (by decide) dX7_handOf_29 ?_
      refine X_aload_n C dX7_handOf_30 rfl (j := 1) rfl ?_
      refine X_getR C sh_7 rfl fw_RX7_20 dX7_handOf_31 ?_
      refine X_iload_n C dX7_handOf_34 rfl (j := 2) rfl ?_
      obtain ⟨g3, h⟩ := h
      refine X_iald C sh_31 g3 dX7_handOf_35 ?_
      refine X_isub C dX7_handOf_36 ?_
      exact X_iret C Z rfl dX7_handOf_37 h
    · replace h := h.2 c
      refine X_aload_n C dX7_handOf_20 rfl (j := 1) rfl ?_
      refine X_getR C sh_7 rfl fw_RX7_20 dX7_handOf_21 ?_
      refine X_iload_n C dX7_handOf_24 rfl (j := 2) rfl ?_
      obtain ⟨g4, h⟩ := h
      refine X_iald C sh_31 g4 dX7_handOf_25 ?_
      refine X_goto C dX7_handOf_26 (tgt := 37) (by decide) ?_
      exact X_iret C Z rfl dX7_handOf_37 h
  · replace h := h.2 c
    refine X_iconst C (v := 2) (by decide) dX7_handOf_12 ?_
    refine X_goto C dX7_handOf_13 (tgt := 37) (by decide) ?_
    exact X_iret C Z rfl dX7_handOf_37 h
set_option maxHeartbeats 4000000 in
set_option maxRecDepth 100000 in
theorem eX7_place {d : Nat} {Q : Option Value → xSt → Prop} (a1 : Int32) (a2 : Int32) (a3 : Int32) (st : xSt) (h : Ct d M_X7_isCount [.ref 7, .int a1] st (Qi fun v2 s1 => ((v2 = 0 → Q (some (.int ((-2)))) s1) ∧ (¬ v2 = 0 → Ct d M_X7_totalOf [.ref 7, .int a1] s1 (Qi fun v4 s3 => Ct d M_X7_in [.int a2, .int 1, .int v4] s3 (Qi fun v6 s5 => ((v6 = 0 → Q (some (.int ((-2)))) s5) ∧ (¬ v6 = 0 → Ct d M_X7_in [.int a3, .int 0, .int 2] s5 (Qi fun v8 s7 => ((¬ v8 = 0 → ((¬ a3 = 0 → ((¬ a3 = 1 → Ct d M_X7_handOf [.ref 7, .int a1, .int a2] s7 (Qi fun v10 s9 => Q (some (.int v10)) s9)) ∧ (a3 = 1 → Ct d M_X7_sideOf [.ref 7, .int a1, .int a2] s7 (Qi fun v12 s11 => Q (some (.int v12)) s11)))) ∧ (a3 = 0 → Ct d M_X7_wordOf [.ref 7, .int a1, .int a2] s7 (Qi fun v14 s13 => Q (some (.int v14)) s13)))) ∧ (v8 = 0 → Q (some (.int ((-2)))) s7))))))))))) : Ct (d + 1) M_X7_place [.ref 7, .int a1, .int a2, .int a3] st Q := by
  refine Ct_of (by decide +kernel) (Nat.le_of_ble_eq_true rfl) (fun κ C Z => ?_)
  show X κ 0 [(0, .ref 7), (1, .int a1), (2, .int a2), (3, .int a3)] [] st
  refine X_aload_n C dX7_place_0 rfl (j := 0) rfl ?_
  refine X_iload_n C dX7_place_1 rfl (j := 1) rfl ?_
  refine X_callV C dX7_place_2 pw_RX7_93 (b := 7) (as := [.int a1]) (S := []) sh_7 rfl rfl rfl (Nat.le_of_ble_eq_true rfl) (Ct_mono h ?_)
  rintro _ s1 ⟨v2, rfl, h⟩
  show X κ 5 [(0, .ref 7), (1, .int a1), (2, .int a2), (3, .int a3)] [.int v2] s1
  refine X_if_eq C dX7_place_5 (tgt := 30) (by decide) (fun c => ?_) (fun c => ?_)
  · replace h := h.1 c
    refine X_bipush C (v := (-2)) (by decide) dX7_place_30 ?_
    exact X_iret C Z rfl dX7_place_32 h
  · replace h := h.2 c
    refine X_iload_n C dX7_place_8 rfl (j := 2) rfl ?_
    refine X_iconst C (v := 1) (by decide) dX7_place_9 ?_
    refine X_aload_n C dX7_place_10 rfl (j := 0) rfl ?_
    refine X_iload_n C dX7_place_11 rfl (j := 1) rfl ?_
    refine X_callV C dX7_place_12 pw_RX7_96 (b := 7) (as := [.int a1]) (S := [.int 1, .int a2]) sh_7 rfl rfl rfl (Nat.le_of_ble_eq_true rfl) (Ct_mono h ?_)
    rintro _ s3 ⟨v4, rfl, h⟩
    show X κ 15 [(0, .ref 7), (1, .int a1), (2, .int a2), (3, .int a3)] [.int v4, .int 1, .int a2] s3
    refine X_callS C dX7_place_15 pw_RX7_75 (as := [.int a2, .int 1, .int v4]) (S := []) rfl rfl (Nat.le_of_ble_eq_true rfl) (Ct_mono h ?_)
    rintro _ s5 ⟨v6, rfl, h⟩
    show X κ 18 [(0, .ref 7), (1, .int a1), (2, .int a2), (3, .int a3)] [.int v6] s5
    refine X_if_eq C dX7_place_18 (tgt := 30) (by decide) (fun c => ?_) (fun c => ?_)
    · replace h := h.1 c
      refine X_bipush C (v := (-2)) (by decide) dX7_place_30 ?_
      exact X_iret C Z rfl dX7_place_32 h
    · replace h := h.2 c
      refine X_iload_n C dX7_place_21 rfl (j := 3) rfl ?_
      refine X_iconst C (v := 0) (by decide) dX7_place_22 ?_
      refine X_iconst C (v := 2) (by decide) dX7_place_23 ?_
      refine X_callS C dX7_place_24 pw_RX7_75 (as := [.int a3, .int 0, .int 2]) (S := []) rfl rfl (Nat.le_of_ble_eq_true rfl) (Ct_mono h ?_)
      rintro _ s7 ⟨v8, rfl, h⟩
      show X κ 27 [(0, .ref 7), (1, .int a1), (2, .int a2), (3, .int a3)] [.int v8] s7
      refine X_if_ne C dX7_place_27 (tgt := 33) (by decide) (fun c => ?_) (fun c => ?_)
      · replace h := h.1 c
        refine X_iload_n C dX7_place_33 rfl (j := 3) rfl ?_
        refine X_if_ne C dX7_place_34 (tgt := 46) (by decide) (fun c => ?_) (fun c => ?_)
        · replace h := h.1 c
          refine X_iload_n C dX7_place_46 rfl (j := 3) rfl ?_
          refine X_iconst C (v := 1) (by decide) dX7_place_47 ?_
          refine X_icmp_ne C dX7_place_48 (tgt := 60) (by decide) (fun c => ?_) (fun c => ?_)
          · replace h := h.1 c
            refine X_aload_n C dX7_place_60 rfl (j := 0) rfl ?_
            refine X_iload_n C dX7_place_61 rfl (j := 1) rfl ?_
            refine X_iload_n C dX7_place_62 rfl (j := 2) rfl ?_
            refine X_callV C dX7_place_63 pw_RX7_109 (b := 7) (as := [.int a1, .int a2]) (S := []) sh_7 rfl rfl rfl (Nat.le_of_ble_eq_true rfl) (Ct_mono h ?_)
            rintro _ s9 ⟨v10, rfl, h⟩
            show X κ 66 [(0, .ref 7), (1, .int a1), (2, .int a2), (3, .int a3)] [.int v10] s9
            exact X_iret C Z rfl dX7_place_66 h
          · replace h := h.2 c
            refine X_aload_n C dX7_place_51 rfl (j := 0) rfl ?_
            refine X_iload_n C dX7_place_52 rfl (j := 1) rfl ?_
            refine X_iload_n C dX7_place_53 rfl (j := 2) rfl ?_
            refine X_callV C dX7_place_54 pw_RX7_103 (b := 7) (as := [.int a1, .int a2]) (S := []) sh_7 rfl rfl rfl (Nat.le_of_ble_eq_true rfl) (Ct_mono h ?_)
            rintro _ s11 ⟨v12, rfl, h⟩
            show X κ 57 [(0, .ref 7), (1, .int a1), (2, .int a2), (3, .int a3)] [.int v12] s11
            refine X_goto C dX7_place_57 (tgt := 66) (by decide) ?_
            exact X_iret C Z rfl dX7_place_66 h
        · replace h := h.2 c
          refine X_aload_n C dX7_place_37 rfl (j := 0) rfl ?_
          refine X_iload_n C dX7_place_38 rfl (j := 1) rfl ?_
          refine X_iload_n C dX7_place_39 rfl (j := 2) rfl ?_
          refine X_callV C dX7_place_40 pw_RX7_106 (b := 7) (as := [.int a1, .int a2]) (S := []) sh_7 rfl rfl rfl (Nat.le_of_ble_eq_true rfl) (Ct_mono h ?_)
          rintro _ s13 ⟨v14, rfl, h⟩
          show X κ 43 [(0, .ref 7), (1, .int a1), (2, .int a2), (3, .int a3)] [.int v14] s13
          refine X_goto C dX7_place_43 (tgt := 66) (by decide) ?_
          exact X_iret C Z rfl dX7_place_66 h
      · replace h := h.2 c
        refine X_bipush C (v := (-2)) (by decide) dX7_place_30 ?_
        exact X_iret C Z rfl dX7_place_32 h
set_option maxHeartbeats 4000000 in
set_option maxRecDepth 100000 in
theorem eX7_menOf {d : Nat} {Q : Option Value → xSt → Prop} (a1 : Int32) (a2 : Int32) (st : xSt) (h : Ct d M_X7_totalOf [.ref 7, .int a1] st (Qi fun v2 s1 => ¬ v2 = 0 ∧ Q (some (.int ((a2 - 1) / v2))) s1)) : Ct (d + 1) M_X7_menOf [.ref 7, .int a1, .int a2] st Q := by
  refine Ct_of (by decide +kernel) (Nat.le_of_ble_eq_true rfl) (fun κ C Z => ?_)
  show X κ 0 [(0, .ref 7), (1, .int a1), (2, .int a2)] [] st
  refine X_iload_n C dX7_menOf_0 rfl (j := 2) rfl ?_
  refine X_iconst C (v := 1) (by decide) dX7_menOf_1 ?_
  refine X_isub C dX7_menOf_2 ?_
  refine X_aload_n C dX7_menOf_3 rfl (j := 0) rfl ?_
  refine X_iload_n C dX7_menOf_4 rfl (j := 1) rfl ?_
  refine X_callV C dX7_menOf_5 pw_RX7_96 (b := 7) (as := [.int a1]) (S := [.int (a2 - 1)]) sh_7 rfl rfl rfl (Nat.le_of_ble_eq_true rfl) (Ct_mono h ?_)
  rintro _ s1 ⟨v2, rfl, h⟩
  show X κ 8 [(0, .ref 7), (1, .int a1), (2, .int a2)] [.int v2, .int (a2 - 1)] s1
  obtain ⟨g, h⟩ := h
  refine X_idiv C g dX7_menOf_8 ?_
  exact X_iret C Z rfl dX7_menOf_9 h
set_option maxHeartbeats 4000000 in
set_option maxRecDepth 100000 in
theorem eX7_placeOf {d : Nat} {Q : Option Value → xSt → Prop} (a1 : Int32) (a2 : Int32) (st : xSt) (h : Ct d M_X7_totalOf [.ref 7, .int a1] st (Qi fun v2 s1 => Ct d M_X7_menOf [.ref 7, .int a1, .int a2] s1 (Qi fun v4 s3 => Q (some (.int (a2 - (v2 * v4)))) s3))) : Ct (d + 1) M_X7_placeOf [.ref 7, .int a1, .int a2] st Q := by
  refine Ct_of (by decide +kernel) (Nat.le_of_ble_eq_true rfl) (fun κ C Z => ?_)
  show X κ 0 [(0, .ref 7), (1, .int a1), (2, .int a2)] [] st
  refine X_iload_n C dX7_placeOf_0 rfl (j := 2) rfl ?_
  refine X_aload_n C dX7_placeOf_1 rfl (j := 0) rfl ?_
  refine X_iload_n C dX7_placeOf_2 rfl (j := 1) rfl ?_
  refine X_callV C dX7_placeOf_3 pw_RX7_96 (b := 7) (as := [.int a1]) (S := [.int a2]) sh_7 rfl rfl rfl (Nat.le_of_ble_eq_true rfl) (Ct_mono h ?_)
  rintro _ s1 ⟨v2, rfl, h⟩
  show X κ 6 [(0, .ref 7), (1, .int a1), (2, .int a2)] [.int v2, .int a2] s1
  refine X_aload_n C dX7_placeOf_6 rfl (j := 0) rfl ?_
  refine X_iload_n C dX7_placeOf_7 rfl (j := 1) rfl ?_
  refine X_iload_n C dX7_placeOf_8 rfl (j := 2) rfl ?_
  refine X_callV C dX7_placeOf_9 pw_RX7_112 (b := 7) (as := [.int a1, .int a2]) (S := [.int v2, .int a2]) sh_7 rfl rfl rfl (Nat.le_of_ble_eq_true rfl) (Ct_mono h ?_)
  rintro _ s3 ⟨v4, rfl, h⟩
  show X κ 12 [(0, .ref 7), (1, .int a1), (2, .int a2)] [.int v4, .int v2, .int a2] s3
  refine X_imul C dX7_placeOf_12 ?_
  refine X_isub C dX7_placeOf_13 ?_
  exact X_iret C Z rfl dX7_placeOf_14 h
set_option maxHeartbeats 4000000 in
set_option maxRecDepth 100000 in
theorem eX7_number {d : Nat} {Q : Option Value → xSt → Prop} (a1 : Int32) (a2 : Int32) (a3 : Int32) (st : xSt) (h : Ct d M_X7_isCount [.ref 7, .int a1] st (Qi fun v2 s1 => ((v2 = 0 → Q (some (.int ((-2)))) s1) ∧ (¬ v2 = 0 → Ct d M_X7_in [.int a2, .int 1, .int 400] s1 (Qi fun v4 s3 => ((v4 = 0 → Q (some (.int ((-2)))) s3) ∧ (¬ v4 = 0 → Ct d M_X7_in [.int a3, .int 0, .int 3] s3 (Qi fun v6 s5 => ((¬ v6 = 0 → Ct d M_X7_placeOf [.ref 7, .int a1, .int a2] s5 (Qi fun v8 s7 => ((¬ a3 = 0 → ((¬ a3 = 1 → ((¬ a3 = 2 → Ct d M_X7_handOf [.ref 7, .int a1, .int v8] s7 (Qi fun v10 s9 => Q (some (.int v10)) s9)) ∧ (a3 = 2 → Ct d M_X7_wordOf [.ref 7, .int a1, .int v8] s7 (Qi fun v12 s11 => Q (some (.int v12)) s11)))) ∧ (a3 = 1 → Q (some (.int v8)) s7))) ∧ (a3 = 0 → Ct d M_X7_menOf [.ref 7, .int a1, .int a2] s7 (Qi fun v14 s13 => Q (some (.int v14)) s13))))) ∧ (v6 = 0 → Q (some (.int ((-2)))) s5)))))))))) : Ct (d + 1) M_X7_number [.ref 7, .int a1, .int a2, .int a3] st Q := by
  refine Ct_of (by decide +kernel) (Nat.le_of_ble_eq_true rfl) (fun κ C Z => ?_)
  show X κ 0 [(0, .ref 7), (1, .int a1), (2, .int a2), (3, .int a3)] [] st
  refine X_aload_n C dX7_number_0 rfl (j := 0) rfl ?_
  refine X_iload_n C dX7_number_1 rfl (j := 1) rfl ?_
  refine X_callV C dX7_number_2 pw_RX7_93 (b := 7) (as := [.int a1]) (S := []) sh_7 rfl rfl rfl (Nat.le_of_ble_eq_true rfl) (Ct_mono h ?_)
  rintro _ s1 ⟨v2, rfl, h⟩
  show X κ 5 [(0, .ref 7), (1, .int a1), (2, .int a2), (3, .int a3)] [.int v2] s1
  refine X_if_eq C dX7_number_5 (tgt := 28) (by decide) (fun c => ?_) (fun c => ?_)
  · replace h := h.1 c
    refine X_bipush C (v := (-2)) (by decide) dX7_number_28 ?_
    exact X_iret C Z rfl dX7_number_30 h
  · replace h := h.2 c
    refine X_iload_n C dX7_number_8 rfl (j := 2) rfl ?_
    refine X_iconst C (v := 1) (by decide) dX7_number_9 ?_
    refine X_sipush C (v := 400) (by decide) dX7_number_10 ?_
    refine X_callS C dX7_number_13 pw_RX7_75 (as := [.int a2, .int 1, .int 400]) (S := []) rfl rfl (Nat.le_of_ble_eq_true rfl) (Ct_mono h ?_)
    rintro _ s3 ⟨v4, rfl, h⟩
    show X κ 16 [(0, .ref 7), (1, .int a1), (2, .int a2), (3, .int a3)] [.int v4] s3
    refine X_if_eq C dX7_number_16 (tgt := 28) (by decide) (fun c => ?_) (fun c => ?_)
    · replace h := h.1 c
      refine X_bipush C (v := (-2)) (by decide) dX7_number_28 ?_
      exact X_iret C Z rfl dX7_number_30 h
    · replace h := h.2 c
      refine X_iload_n C dX7_number_19 rfl (j := 3) rfl ?_
      refine X_iconst C (v := 0) (by decide) dX7_number_20 ?_
      refine X_iconst C (v := 3) (by decide) dX7_number_21 ?_
      refine X_callS C dX7_number_22 pw_RX7_75 (as := [.int a3, .int 0, .int 3]) (S := []) rfl rfl (Nat.le_of_ble_eq_true rfl) (Ct_mono h ?_)
      rintro _ s5 ⟨v6, rfl, h⟩
      show X κ 25 [(0, .ref 7), (1, .int a1), (2, .int a2), (3, .int a3)] [.int v6] s5
      refine X_if_ne C dX7_number_25 (tgt := 31) (by decide) (fun c => ?_) (fun c => ?_)
      · replace h := h.1 c
        refine X_aload_n C dX7_number_31 rfl (j := 0) rfl ?_
        refine X_iload_n C dX7_number_32 rfl (j := 1) rfl ?_
        refine X_iload_n C dX7_number_33 rfl (j := 2) rfl ?_
        refine X_callV C dX7_number_34 pw_RX7_115 (b := 7) (as := [.int a1, .int a2]) (S := []) sh_7 rfl rfl rfl (Nat.le_of_ble_eq_true rfl) (Ct_mono h ?_)
        rintro _ s7 ⟨v8, rfl, h⟩
        show X κ 37 [(0, .ref 7), (1, .int a1), (2, .int a2), (3, .int a3)] [.int v8] s7
        refine X_istore C dX7_number_37 (by decide) (L' := [(4, .int v8), (0, .ref 7), (1, .int a1), (2, .int a2), (3, .int a3)]) rfl ?_
        refine X_iload_n C dX7_number_39 rfl (j := 4) rfl ?_
        refine X_if_ne C dX7_number_40 (tgt := 52) (by decide) (fun c => ?_) (fun c => ?_)
        · replace h := h.1 c
          refine X_iload_n C dX7_number_52 rfl (j := 4) rfl ?_
          refine X_iconst C (v := 1) (by decide) dX7_number_53 ?_
          refine X_icmp_ne C dX7_number_54 (tgt := 62) (by decide) (fun c => ?_) (fun c => ?_)
          · replace h := h.1 c
            refine X_iload_n C dX7_number_62 rfl (j := 4) rfl ?_
            refine X_iconst C (v := 2) (by decide) dX7_number_63 ?_
            refine X_icmp_ne C dX7_number_64 (tgt := 77) (by decide) (fun c => ?_) (fun c => ?_)
            · replace h := h.1 c
              refine X_aload_n C dX7_number_77 rfl (j := 1) rfl ?_
              refine X_iload_n C dX7_number_78 rfl (j := 2) rfl ?_
              refine X_iload C dX7_number_79 (j := 0) rfl ?_
              refine X_callV C dX7_number_81 pw_RX7_109 (b := 7) (as := [.int a1, .int v8]) (S := []) sh_7 rfl rfl rfl (Nat.le_of_ble_eq_true rfl) (Ct_mono h ?_)
              rintro _ s9 ⟨v10, rfl, h⟩
              show X κ 84 [(4, .int v8), (0, .ref 7), (1, .int a1), (2, .int a2), (3, .int a3)] [.int v10] s9
              exact X_iret C Z rfl dX7_number_84 h
            · replace h := h.2 c
              refine X_aload_n C dX7_number_67 rfl (j := 1) rfl ?_
              refine X_iload_n C dX7_number_68 rfl (j := 2) rfl ?_
              refine X_iload C dX7_number_69 (j := 0) rfl ?_
              refine X_callV C dX7_number_71 pw_RX7_106 (b := 7) (as := [.int a1, .int v8]) (S := []) sh_7 rfl rfl rfl (Nat.le_of_ble_eq_true rfl) (Ct_mono h ?_)
              rintro _ s11 ⟨v12, rfl, h⟩
              show X κ 74 [(4, .int v8), (0, .ref 7), (1, .int a1), (2, .int a2), (3, .int a3)] [.int v12] s11
              refine X_goto C dX7_number_74 (tgt := 84) (by decide) ?_
              exact X_iret C Z rfl dX7_number_84 h
          · replace h := h.2 c
            refine X_iload C dX7_number_57 (j := 0) rfl ?_
            refine X_goto C dX7_number_59 (tgt := 84) (by decide) ?_
            exact X_iret C Z rfl dX7_number_84 h
        · replace h := h.2 c
          refine X_aload_n C dX7_number_43 rfl (j := 1) rfl ?_
          refine X_iload_n C dX7_number_44 rfl (j := 2) rfl ?_
          refine X_iload_n C dX7_number_45 rfl (j := 3) rfl ?_
          refine X_callV C dX7_number_46 pw_RX7_112 (b := 7) (as := [.int a1, .int a2]) (S := []) sh_7 rfl rfl rfl (Nat.le_of_ble_eq_true rfl) (Ct_mono h ?_)
          rintro _ s13 ⟨v14, rfl, h⟩
          show X κ 49 [(4, .int v8), (0, .ref 7), (1, .int a1), (2, .int a2), (3, .int a3)] [.int v14] s13
          refine X_goto C dX7_number_49 (tgt := 84) (by decide) ?_
          exact X_iret C Z rfl dX7_number_84 h
      · replace h := h.2 c
        refine X_bipush C (v := (-2)) (by decide) dX7_number_28 ?_
        exact X_iret C Z rfl dX7_number_30 h
set_option maxHeartbeats 4000000 in
set_option maxRecDepth 100000 in
theorem eX7_value {d : Nat} {Q : Option Value → xSt → Prop} (a1 : Int32) (a2 : Int32) (a3 : Int32) (st : xSt) (h : Ct d M_X7_isCount [.ref 7, .int a1] st (Qi fun v2 s1 => ((v2 = 0 → Q (some (.int ((-2)))) s1) ∧ (¬ v2 = 0 → Ct d M_X7_in [.int a2, .int 0, .int 20] s1 (Qi fun v4 s3 => ((v4 = 0 → Q (some (.int ((-2)))) s3) ∧ (¬ v4 = 0 → Ct d M_X7_totalOf [.ref 7, .int a1] s3 (Qi fun v6 s5 => Ct d M_X7_in [.int a3, .int 1, .int v6] s5 (Qi fun v8 s7 => ((v8 = 0 → Q (some (.int ((-2)))) s7) ∧ (¬ v8 = 0 → Ct d M_X7_totalOf [.ref 7, .int a1] s7 (Qi fun v10 s9 => Q (some (.int ((a2 * v10) + a3))) s9)))))))))))) : Ct (d + 1) M_X7_value [.ref 7, .int a1, .int a2, .int a3] st Q := by
  refine Ct_of (by decide +kernel) (Nat.le_of_ble_eq_true rfl) (fun κ C Z => ?_)
  show X κ 0 [(0, .ref 7), (1, .int a1), (2, .int a2), (3, .int a3)] [] st
  refine X_aload_n C dX7_value_0 rfl (j := 0) rfl ?_
  refine X_iload_n C dX7_value_1 rfl (j := 1) rfl ?_
  refine X_callV C dX7_value_2 pw_RX7_93 (b := 7) (as := [.int a1]) (S := []) sh_7 rfl rfl rfl (Nat.le_of_ble_eq_true rfl) (Ct_mono h ?_)
  rintro _ s1 ⟨v2, rfl, h⟩
  show X κ 5 [(0, .ref 7), (1, .int a1), (2, .int a2), (3, .int a3)] [.int v2] s1
  refine X_if_eq C dX7_value_5 (tgt := 43) (by decide) (fun c => ?_) (fun c => ?_)
  · replace h := h.1 c
    refine X_bipush C (v := (-2)) (by decide) dX7_value_43 ?_
    exact X_iret C Z rfl dX7_value_45 h
  · replace h := h.2 c
    refine X_iload_n C dX7_value_8 rfl (j := 2) rfl ?_
    refine X_iconst C (v := 0) (by decide) dX7_value_9 ?_
    refine X_bipush C (v := 20) (by decide) dX7_value_10 ?_
    refine X_callS C dX7_value_12 pw_RX7_75 (as := [.int a2, .int 0, .int 20]) (S := []) rfl rfl (Nat.le_of_ble_eq_true rfl) (Ct_mono h ?_)
    rintro _ s3 ⟨v4, rfl, h⟩
    show X κ 15 [(0, .ref 7), (1, .int a1), (2, .int a2), (3, .int a3)] [.int v4] s3
    refine X_if_eq C dX7_value_15 (tgt := 43) (by decide) (fun c => ?_) (fun c => ?_)
    · replace h := h.1 c
      refine X_bipush C (v := (-2)) (by decide) dX7_value_43 ?_
      exact X_iret C Z rfl dX7_value_45 h
    · replace h := h.2 c
      refine X_iload_n C dX7_value_18 rfl (j := 3) rfl ?_
      refine X_iconst C (v := 1) (by decide) dX7_value_19 ?_
      refine X_aload_n C dX7_value_20 rfl (j := 0) rfl ?_
      refine X_iload_n C dX7_value_21 rfl (j := 1) rfl ?_
      refine X_callV C dX7_value_22 pw_RX7_96 (b := 7) (as := [.int a1]) (S := [.int 1, .int a3]) sh_7 rfl rfl rfl (Nat.le_of_ble_eq_true rfl) (Ct_mono h ?_)
      rintro _ s5 ⟨v6, rfl, h⟩
      show X κ 25 [(0, .ref 7), (1, .int a1), (2, .int a2), (3, .int a3)] [.int v6, .int 1, .int a3] s5
      refine X_callS C dX7_value_25 pw_RX7_75 (as := [.int a3, .int 1, .int v6]) (S := []) rfl rfl (Nat.le_of_ble_eq_true rfl) (Ct_mono h ?_)
      rintro _ s7 ⟨v8, rfl, h⟩
      show X κ 28 [(0, .ref 7), (1, .int a1), (2, .int a2), (3, .int a3)] [.int v8] s7
      refine X_if_eq C dX7_value_28 (tgt := 43) (by decide) (fun c => ?_) (fun c => ?_)
      · replace h := h.1 c
        refine X_bipush C (v := (-2)) (by decide) dX7_value_43 ?_
        exact X_iret C Z rfl dX7_value_45 h
      · replace h := h.2 c
        refine X_iload_n C dX7_value_31 rfl (j := 2) rfl ?_
        refine X_aload_n C dX7_value_32 rfl (j := 0) rfl ?_
        refine X_iload_n C dX7_value_33 rfl (j := 1) rfl ?_
        refine X_callV C dX7_value_34 pw_RX7_96 (b := 7) (as := [.int a1]) (S := [.int a2]) sh_7 rfl rfl rfl (Nat.le_of_ble_eq_true rfl) (Ct_mono h ?_)
        rintro _ s9 ⟨v10, rfl, h⟩
        show X κ 37 [(0, .ref 7), (1, .int a1), (2, .int a2), (3, .int a3)] [.int v10, .int a2] s9
        refine X_imul C dX7_value_37 ?_
        refine X_iload_n C dX7_value_38 rfl (j := 3) rfl ?_
        refine X_iadd C dX7_value_39 ?_
        refine X_goto C dX7_value_40 (tgt := 45) (by decide) ?_
        exact X_iret C Z rfl dX7_value_45 h
set_option maxHeartbeats 4000000 in
set_option maxRecDepth 100000 in
theorem eX7_mayMean {d : Nat} {Q : Option Value → xSt → Prop} (a1 : Int32) (a2 : Int32) (a3 : Int32) (a4 : Int32) (a5 : Int32) (st : xSt) (h : Ct d M_X7_placeOf [.ref 7, .int a1, .int a5] st (Qi fun v2 s1 => Ct d M_X7_wordOf [.ref 7, .int a1, .int v2] s1 (Qi fun v4 s3 => ((¬ v4 = a2 → Q (some (.int 0)) s3) ∧ (v4 = a2 → ((a3 = ((-1)) → ((a4 = ((-1)) → Q (some (.int 1)) s3) ∧ (¬ a4 = ((-1)) → Ct d M_X7_menOf [.ref 7, .int a1, .int a5] s3 (Qi fun v6 s5 => ((¬ v6 = a4 → Q (some (.int 0)) s5) ∧ (v6 = a4 → Q (some (.int 1)) s5)))))) ∧ (¬ a3 = ((-1)) → Ct d M_X7_handOf [.ref 7, .int a1, .int v2] s3 (Qi fun v8 s7 => ((¬ v8 = a3 → Q (some (.int 0)) s7) ∧ (v8 = a3 → ((a4 = ((-1)) → Q (some (.int 1)) s7) ∧ (¬ a4 = ((-1)) → Ct d M_X7_menOf [.ref 7, .int a1, .int a5] s7 (Qi fun v10 s9 => ((¬ v10 = a4 → Q (some (.int 0)) s9) ∧ (v10 = a4 → Q (some (.int 1)) s9))))))))))))))) : Ct (d + 1) M_X7_mayMean [.ref 7, .int a1, .int a2, .int a3, .int a4, .int a5] st Q := by
  refine Ct_of (by decide +kernel) (Nat.le_of_ble_eq_true rfl) (fun κ C Z => ?_)
  show X κ 0 [(0, .ref 7), (1, .int a1), (2, .int a2), (3, .int a3), (4, .int a4), (5, .int a5)] [] st
  refine X_aload_n C dX7_mayMean_0 rfl (j := 0) rfl ?_
  refine X_iload_n C dX7_mayMean_1 rfl (j := 1) rfl ?_
  refine X_iload C dX7_mayMean_2 (j := 5) rfl ?_
  refine X_callV C dX7_mayMean_4 pw_RX7_115 (b := 7) (as := [.int a1, .int a5]) (S := []) sh_7 rfl rfl rfl (Nat.le_of_ble_eq_true rfl) (Ct_mono h ?_)
  rintro _ s1 ⟨v2, rfl, h⟩
  show X κ 7 [(0, .ref 7), (1, .int a1), (2, .int a2), (3, .int a3), (4, .int a4), (5, .int a5)] [.int v2] s1
  refine X_istore C dX7_mayMean_7 (by decide) (L' := [(6, .int v2), (0, .ref 7), (1, .int a1), (2, .int a2), (3, .int a3), (4, .int a4), (5, .int a5)]) rfl ?_
  refine X_aload_n C dX7_mayMean_9 rfl (j := 1) rfl ?_
  refine X_iload_n C dX7_mayMean_10 rfl (j := 2) rfl ?_
  refine X_iload C dX7_mayMean_11 (j := 0) rfl ?_
  refine X_callV C dX7_mayMean_13 pw_RX7_106 (b := 7) (as := [.int a1, .int v2]) (S := []) sh_7 rfl rfl rfl (Nat.le_of_ble_eq_true rfl) (Ct_mono h ?_)
  rintro _ s3 ⟨v4, rfl, h⟩
  show X κ 16 [(6, .int v2), (0, .ref 7), (1, .int a1), (2, .int a2), (3, .int a3), (4, .int a4), (5, .int a5)] [.int v4] s3
  refine X_iload_n C dX7_mayMean_16 rfl (j := 3) rfl ?_
  refine X_icmp_ne C dX7_mayMean_17 (tgt := 58) (by decide) (fun c => ?_) (fun c => ?_)
  · replace h := h.1 c
    refine X_iconst C (v := 0) (by decide) dX7_mayMean_58 ?_
    exact X_zret C Z rfl (by decide) dX7_mayMean_59 h
  · replace h := h.2 c
    refine X_iload_n C dX7_mayMean_20 rfl (j := 4) rfl ?_
    refine X_iconst C (v := (-1)) (by decide) dX7_mayMean_21 ?_
    refine X_icmp_eq C dX7_mayMean_22 (tgt := 36) (by decide) (fun c => ?_) (fun c => ?_)
    · replace h := h.1 c
      refine X_iload C dX7_mayMean_36 (j := 5) rfl ?_
      refine X_iconst C (v := (-1)) (by decide) dX7_mayMean_38 ?_
      refine X_icmp_eq C dX7_mayMean_39 (tgt := 54) (by decide) (fun c => ?_) (fun c => ?_)
      · replace h := h.1 c
        refine X_iconst C (v := 1) (by decide) dX7_mayMean_54 ?_
        refine X_goto C dX7_mayMean_55 (tgt := 59) (by decide) ?_
        exact X_zret C Z rfl (by decide) dX7_mayMean_59 h
      · replace h := h.2 c
        refine X_aload_n C dX7_mayMean_42 rfl (j := 1) rfl ?_
        refine X_iload_n C dX7_mayMean_43 rfl (j := 2) rfl ?_
        refine X_iload C dX7_mayMean_44 (j := 6) rfl ?_
        refine X_callV C dX7_mayMean_46 pw_RX7_112 (b := 7) (as := [.int a1, .int a5]) (S := []) sh_7 rfl rfl rfl (Nat.le_of_ble_eq_true rfl) (Ct_mono h ?_)
        rintro _ s5 ⟨v6, rfl, h⟩
        show X κ 49 [(6, .int v2), (0, .ref 7), (1, .int a1), (2, .int a2), (3, .int a3), (4, .int a4), (5, .int a5)] [.int v6] s5
        refine X_iload C dX7_mayMean_49 (j := 5) rfl ?_
        refine X_icmp_ne C dX7_mayMean_51 (tgt := 58) (by decide) (fun c => ?_) (fun c => ?_)
        · replace h := h.1 c
          refine X_iconst C (v := 0) (by decide) dX7_mayMean_58 ?_
          exact X_zret C Z rfl (by decide) dX7_mayMean_59 h
        · replace h := h.2 c
          refine X_iconst C (v := 1) (by decide) dX7_mayMean_54 ?_
          refine X_goto C dX7_mayMean_55 (tgt := 59) (by decide) ?_
          exact X_zret C Z rfl (by decide) dX7_mayMean_59 h
    · replace h := h.2 c
      refine X_aload_n C dX7_mayMean_25 rfl (j := 1) rfl ?_
      refine X_iload_n C dX7_mayMean_26 rfl (j := 2) rfl ?_
      refine X_iload C dX7_mayMean_27 (j := 0) rfl ?_
      refine X_callV C dX7_mayMean_29 pw_RX7_109 (b := 7) (as := [.int a1, .int v2]) (S := []) sh_7 rfl rfl rfl (Nat.le_of_ble_eq_true rfl) (Ct_mono h ?_)
      rintro _ s7 ⟨v8, rfl, h⟩
      show X κ 32 [(6, .int v2), (0, .ref 7), (1, .int a1), (2, .int a2), (3, .int a3), (4, .int a4), (5, .int a5)] [.int v8] s7
      refine X_iload_n C dX7_mayMean_32 rfl (j := 4) rfl ?_
      refine X_icmp_ne C dX7_mayMean_33 (tgt := 58) (by decide) (fun c => ?_) (fun c => ?_)
      · replace h := h.1 c
        refine X_iconst C (v := 0) (by decide) dX7_mayMean_58 ?_
        exact X_zret C Z rfl (by decide) dX7_mayMean_59 h
      · replace h := h.2 c
        refine X_iload C dX7_mayMean_36 (j := 5) rfl ?_
        refine X_iconst C (v := (-1)) (by decide) dX7_mayMean_38 ?_
        refine X_icmp_eq C dX7_mayMean_39 (tgt := 54) (by decide) (fun c => ?_) (fun c => ?_)
        · replace h := h.1 c
          refine X_iconst C (v := 1) (by decide) dX7_mayMean_54 ?_
          refine X_goto C dX7_mayMean_55 (tgt := 59) (by decide) ?_
          exact X_zret C Z rfl (by decide) dX7_mayMean_59 h
        · replace h := h.2 c
          refine X_aload_n C dX7_mayMean_42 rfl (j := 1) rfl ?_
          refine X_iload_n C dX7_mayMean_43 rfl (j := 2) rfl ?_
          refine X_iload C dX7_mayMean_44 (j := 6) rfl ?_
          refine X_callV C dX7_mayMean_46 pw_RX7_112 (b := 7) (as := [.int a1, .int a5]) (S := []) sh_7 rfl rfl rfl (Nat.le_of_ble_eq_true rfl) (Ct_mono h ?_)
          rintro _ s9 ⟨v10, rfl, h⟩
          show X κ 49 [(6, .int v2), (0, .ref 7), (1, .int a1), (2, .int a2), (3, .int a3), (4, .int a4), (5, .int a5)] [.int v10] s9
          refine X_iload C dX7_mayMean_49 (j := 5) rfl ?_
          refine X_icmp_ne C dX7_mayMean_51 (tgt := 58) (by decide) (fun c => ?_) (fun c => ?_)
          · replace h := h.1 c
            refine X_iconst C (v := 0) (by decide) dX7_mayMean_58 ?_
            exact X_zret C Z rfl (by decide) dX7_mayMean_59 h
          · replace h := h.2 c
            refine X_iconst C (v := 1) (by decide) dX7_mayMean_54 ?_
            refine X_goto C dX7_mayMean_55 (tgt := 59) (by decide) ?_
            exact X_zret C Z rfl (by decide) dX7_mayMean_59 h
set_option maxHeartbeats 4000000 in
set_option maxRecDepth 100000 in
theorem eX7_isPoint {d : Nat} {Q : Option Value → xSt → Prop} (a1 : Int32) (a2 : Int32) (a3 : Int32) (a4 : Int32) (st : xSt) (h : Ct d M_X7_isCount [.ref 7, .int a1] st (Qi fun v2 s1 => ((v2 = 0 → Q (some (.int 0)) s1) ∧ (¬ v2 = 0 → Ct d M_X7_isWord [.int a2] s1 (Qi fun v4 s3 => ((v4 = 0 → Q (some (.int 0)) s3) ∧ (¬ v4 = 0 → Ct d M_X7_in [.int a3, .int ((-1)), .int 2] s3 (Qi fun v6 s5 => ((v6 = 0 → Q (some (.int 0)) s5) ∧ (¬ v6 = 0 → Ct d M_X7_in [.int a4, .int ((-1)), .int 20] s5 (Qi fun v8 s7 => ((v8 = 0 → Q (some (.int 0)) s7) ∧ (¬ v8 = 0 → Q (some (.int 1)) s7))))))))))))) : Ct (d + 1) M_X7_isPoint [.ref 7, .int a1, .int a2, .int a3, .int a4] st Q := by
  refine Ct_of (by decide +kernel) (Nat.le_of_ble_eq_true rfl) (fun κ C Z => ?_)
  show X κ 0 [(0, .ref 7), (1, .int a1), (2, .int a2), (3, .int a3), (4, .int a4)] [] st
  refine X_aload_n C dX7_isPoint_0 rfl (j := 0) rfl ?_
  refine X_iload_n C dX7_isPoint_1 rfl (j := 1) rfl ?_
  refine X_callV C dX7_isPoint_2 pw_RX7_93 (b := 7) (as := [.int a1]) (S := []) sh_7 rfl rfl rfl (Nat.le_of_ble_eq_true rfl) (Ct_mono h ?_)
  rintro _ s1 ⟨v2, rfl, h⟩
  show X κ 5 [(0, .ref 7), (1, .int a1), (2, .int a2), (3, .int a3), (4, .int a4)] [.int v2] s1
  refine X_if_eq C dX7_isPoint_5 (tgt := 39) (by decide) (fun c => ?_) (fun c => ?_)
  · replace h := h.1 c
    refine X_iconst C (v := 0) (by decide) dX7_isPoint_39 ?_
    exact X_zret C Z rfl (by decide) dX7_isPoint_40 h
  · replace h := h.2 c
    refine X_iload_n C dX7_isPoint_8 rfl (j := 2) rfl ?_
    refine X_callS C dX7_isPoint_9 pw_RX7_90 (as := [.int a2]) (S := []) rfl rfl (Nat.le_of_ble_eq_true rfl) (Ct_mono h ?_)
    rintro _ s3 ⟨v4, rfl, h⟩
    show X κ 12 [(0, .ref 7), (1, .int a1), (2, .int a2), (3, .int a3), (4, .int a4)] [.int v4] s3
    refine X_if_eq C dX7_isPoint_12 (tgt := 39) (by decide) (fun c => ?_) (fun c => ?_)
    · replace h := h.1 c
      refine X_iconst C (v := 0) (by decide) dX7_isPoint_39 ?_
      exact X_zret C Z rfl (by decide) dX7_isPoint_40 h
    · replace h := h.2 c
      refine X_iload_n C dX7_isPoint_15 rfl (j := 3) rfl ?_
      refine X_iconst C (v := (-1)) (by decide) dX7_isPoint_16 ?_
      refine X_iconst C (v := 2) (by decide) dX7_isPoint_17 ?_
      refine X_callS C dX7_isPoint_18 pw_RX7_75 (as := [.int a3, .int ((-1)), .int 2]) (S := []) rfl rfl (Nat.le_of_ble_eq_true rfl) (Ct_mono h ?_)
      rintro _ s5 ⟨v6, rfl, h⟩
      show X κ 21 [(0, .ref 7), (1, .int a1), (2, .int a2), (3, .int a3), (4, .int a4)] [.int v6] s5
      refine X_if_eq C dX7_isPoint_21 (tgt := 39) (by decide) (fun c => ?_) (fun c => ?_)
      · replace h := h.1 c
        refine X_iconst C (v := 0) (by decide) dX7_isPoint_39 ?_
        exact X_zret C Z rfl (by decide) dX7_isPoint_40 h
      · replace h := h.2 c
        refine X_iload C dX7_isPoint_24 (j := 4) rfl ?_
        refine X_iconst C (v := (-1)) (by decide) dX7_isPoint_26 ?_
        refine X_bipush C (v := 20) (by decide) dX7_isPoint_27 ?_
        refine X_callS C dX7_isPoint_29 pw_RX7_75 (as := [.int a4, .int ((-1)), .int 20]) (S := []) rfl rfl (Nat.le_of_ble_eq_true rfl) (Ct_mono h ?_)
        rintro _ s7 ⟨v8, rfl, h⟩
        show X κ 32 [(0, .ref 7), (1, .int a1), (2, .int a2), (3, .int a3), (4, .int a4)] [.int v8] s7
        refine X_if_eq C dX7_isPoint_32 (tgt := 39) (by decide) (fun c => ?_) (fun c => ?_)
        · replace h := h.1 c
          refine X_iconst C (v := 0) (by decide) dX7_isPoint_39 ?_
          exact X_zret C Z rfl (by decide) dX7_isPoint_40 h
        · replace h := h.2 c
          refine X_iconst C (v := 1) (by decide) dX7_isPoint_35 ?_
          refine X_goto C dX7_isPoint_36 (tgt := 40) (by decide) ?_
          exact X_zret C Z rfl (by decide) dX7_isPoint_40 h
set_option maxHeartbeats 4000000 in
set_option maxRecDepth 100000 in
theorem bX7_meanings_33 {κ : xK} {d : Nat} {Q : Option Value → xSt → Prop} (C : Cx κ M_X7_meanings (d + 1)) (Z : xR κ Q) (x1 : Int32) (x2 : Int32) (x3 : Int32) (x4 : Int32) (x5 : Int32) (x6 : Int32) (x7 : Int32) (st : xSt) (h : ((x5 < x7 → Q (some (.int x6)) st) ∧ (¬ x5 < x7 → Ct d M_X7_mayMean [.ref 7, .int x1, .int x2, .int x3, .int x4, .int x7] st (Qi fun v2 s1 => ((v2 = 0 → X κ 33 [(0, .ref 7), (1, .int x1), (2, .int x2), (3, .int x3), (4, .int x4), (5, .int x5), (6, .int (x6 + 0)), (7, .int (x7 + 1))] [] s1) ∧ (¬ v2 = 0 → X κ 33 [(0, .ref 7), (1, .int x1), (2, .int x2), (3, .int x3), (4, .int x4), (5, .int x5), (6, .int (x6 + 1)), (7, .int (x7 + 1))] [] s1)))))) : X κ 33 [(0, .ref 7), (1, .int x1), (2, .int x2), (3, .int x3), (4, .int x4), (5, .int x5), (6, .int x6), (7, .int x7)] [] st := by
  refine X_iload C dX7_meanings_33 (j := 7) rfl ?_
  refine X_iload C dX7_meanings_35 (j := 5) rfl ?_
  refine X_icmp_gt C dX7_meanings_37 (tgt := 70) (by decide) (fun c => ?_) (fun c => ?_)
  · replace h := h.1 c
    refine X_iload C dX7_meanings_70 (j := 6) rfl ?_
    exact X_iret C Z rfl dX7_meanings_72 h
  · replace h := h.2 c
    refine X_iload C dX7_meanings_40 (j := 6) rfl ?_
    refine X_aload_n C dX7_meanings_42 rfl (j := 0) rfl ?_
    refine X_iload_n C dX7_meanings_43 rfl (j := 1) rfl ?_
    refine X_iload_n C dX7_meanings_44 rfl (j := 2) rfl ?_
    refine X_iload_n C dX7_meanings_45 rfl (j := 3) rfl ?_
    refine X_iload C dX7_meanings_46 (j := 4) rfl ?_
    refine X_iload C dX7_meanings_48 (j := 7) rfl ?_
    refine X_callV C dX7_meanings_50 pw_RX7_122 (b := 7) (as := [.int x1, .int x2, .int x3, .int x4, .int x7]) (S := [.int x6]) sh_7 rfl rfl rfl (Nat.le_of_ble_eq_true rfl) (Ct_mono h ?_)
    rintro _ s1 ⟨v2, rfl, h⟩
    show X κ 53 [(0, .ref 7), (1, .int x1), (2, .int x2), (3, .int x3), (4, .int x4), (5, .int x5), (6, .int x6), (7, .int x7)] [.int v2, .int x6] s1
    refine X_if_eq C dX7_meanings_53 (tgt := 60) (by decide) (fun c => ?_) (fun c => ?_)
    · replace h := h.1 c
      refine X_iconst C (v := 0) (by decide) dX7_meanings_60 ?_
      refine X_iadd C dX7_meanings_61 ?_
      refine X_istore C dX7_meanings_62 (by decide) (L' := [(6, .int (x6 + 0)), (0, .ref 7), (1, .int x1), (2, .int x2), (3, .int x3), (4, .int x4), (5, .int x5), (7, .int x7)]) rfl ?_
      refine X_iinc C dX7_meanings_64 (j := 7) rfl (v := x7 + 1) rfl (by decide) (L' := [(7, .int (x7 + 1)), (6, .int (x6 + 0)), (0, .ref 7), (1, .int x1), (2, .int x2), (3, .int x3), (4, .int x4), (5, .int x5)]) rfl ?_
      refine X_goto C dX7_meanings_67 (tgt := 33) (by decide) ?_
      refine X_loc [2, 3, 4, 5, 6, 7, 1, 0] rfl ?_
      exact h
    · replace h := h.2 c
      refine X_iconst C (v := 1) (by decide) dX7_meanings_56 ?_
      refine X_goto C dX7_meanings_57 (tgt := 61) (by decide) ?_
      refine X_iadd C dX7_meanings_61 ?_
      refine X_istore C dX7_meanings_62 (by decide) (L' := [(6, .int (x6 + 1)), (0, .ref 7), (1, .int x1), (2, .int x2), (3, .int x3), (4, .int x4), (5, .int x5), (7, .int x7)]) rfl ?_
      refine X_iinc C dX7_meanings_64 (j := 7) rfl (v := x7 + 1) rfl (by decide) (L' := [(7, .int (x7 + 1)), (6, .int (x6 + 1)), (0, .ref 7), (1, .int x1), (2, .int x2), (3, .int x3), (4, .int x4), (5, .int x5)]) rfl ?_
      refine X_goto C dX7_meanings_67 (tgt := 33) (by decide) ?_
      refine X_loc [2, 3, 4, 5, 6, 7, 1, 0] rfl ?_
      exact h
set_option maxHeartbeats 4000000 in
set_option maxRecDepth 100000 in
theorem eX7_meanings {d : Nat} {Q : Option Value → xSt → Prop} (a1 : Int32) (a2 : Int32) (a3 : Int32) (a4 : Int32) (a5 : Int32) (st : xSt) (h : ∀ κ : xK, Cx κ M_X7_meanings (d + 1) → xR κ Q → Ct d M_X7_isPoint [.ref 7, .int a1, .int a2, .int a3, .int a4] st (Qi fun v2 s1 => ((v2 = 0 → Q (some (.int ((-2)))) s1) ∧ (¬ v2 = 0 → Ct d M_X7_in [.int a5, .int 1, .int 400] s1 (Qi fun v4 s3 => ((¬ v4 = 0 → X κ 33 [(0, .ref 7), (1, .int a1), (2, .int a2), (3, .int a3), (4, .int a4), (5, .int a5), (6, .int 0), (7, .int 1)] [] s3) ∧ (v4 = 0 → Q (some (.int ((-2)))) s3))))))) : Ct (d + 1) M_X7_meanings [.ref 7, .int a1, .int a2, .int a3, .int a4, .int a5] st Q := by
  refine Ct_of (by decide +kernel) (Nat.le_of_ble_eq_true rfl) (fun κ C Z => ?_)
  replace h := h κ C Z
  show X κ 0 [(0, .ref 7), (1, .int a1), (2, .int a2), (3, .int a3), (4, .int a4), (5, .int a5)] [] st
  refine X_aload_n C dX7_meanings_0 rfl (j := 0) rfl ?_
  refine X_iload_n C dX7_meanings_1 rfl (j := 1) rfl ?_
  refine X_iload_n C dX7_meanings_2 rfl (j := 2) rfl ?_
  refine X_iload_n C dX7_meanings_3 rfl (j := 3) rfl ?_
  refine X_iload C dX7_meanings_4 (j := 4) rfl ?_
  refine X_callV C dX7_meanings_6 pw_RX7_118 (b := 7) (as := [.int a1, .int a2, .int a3, .int a4]) (S := []) sh_7 rfl rfl rfl (Nat.le_of_ble_eq_true rfl) (Ct_mono h ?_)
  rintro _ s1 ⟨v2, rfl, h⟩
  show X κ 9 [(0, .ref 7), (1, .int a1), (2, .int a2), (3, .int a3), (4, .int a4), (5, .int a5)] [.int v2] s1
  refine X_if_eq C dX7_meanings_9 (tgt := 24) (by decide) (fun c => ?_) (fun c => ?_)
  · replace h := h.1 c
    refine X_bipush C (v := (-2)) (by decide) dX7_meanings_24 ?_
    exact X_iret C Z rfl dX7_meanings_26 h
  · replace h := h.2 c
    refine X_iload C dX7_meanings_12 (j := 5) rfl ?_
    refine X_iconst C (v := 1) (by decide) dX7_meanings_14 ?_
    refine X_sipush C (v := 400) (by decide) dX7_meanings_15 ?_
    refine X_callS C dX7_meanings_18 pw_RX7_75 (as := [.int a5, .int 1, .int 400]) (S := []) rfl rfl (Nat.le_of_ble_eq_true rfl) (Ct_mono h ?_)
    rintro _ s3 ⟨v4, rfl, h⟩
    show X κ 21 [(0, .ref 7), (1, .int a1), (2, .int a2), (3, .int a3), (4, .int a4), (5, .int a5)] [.int v4] s3
    refine X_if_ne C dX7_meanings_21 (tgt := 27) (by decide) (fun c => ?_) (fun c => ?_)
    · replace h := h.1 c
      refine X_iconst C (v := 0) (by decide) dX7_meanings_27 ?_
      refine X_istore C dX7_meanings_28 (by decide) (L' := [(6, .int 0), (0, .ref 7), (1, .int a1), (2, .int a2), (3, .int a3), (4, .int a4), (5, .int a5)]) rfl ?_
      refine X_iconst C (v := 1) (by decide) dX7_meanings_30 ?_
      refine X_istore C dX7_meanings_31 (by decide) (L' := [(7, .int 1), (6, .int 0), (0, .ref 7), (1, .int a1), (2, .int a2), (3, .int a3), (4, .int a4), (5, .int a5)]) rfl ?_
      refine X_loc [2, 3, 4, 5, 6, 7, 1, 0] rfl ?_
      exact h
    · replace h := h.2 c
      refine X_bipush C (v := (-2)) (by decide) dX7_meanings_24 ?_
      exact X_iret C Z rfl dX7_meanings_26 h
set_option maxHeartbeats 4000000 in
set_option maxRecDepth 100000 in
theorem bX7_meaning_27 {κ : xK} {d : Nat} {Q : Option Value → xSt → Prop} (C : Cx κ M_X7_meaning (d + 1)) (Z : xR κ Q) (x1 : Int32) (x2 : Int32) (x3 : Int32) (x4 : Int32) (x6 : Int32) (x7 : Int32) (st : xSt) (h : ((400 < x7 → Q (some (.int ((-1)))) st) ∧ (¬ 400 < x7 → Ct d M_X7_mayMean [.ref 7, .int x1, .int x2, .int x3, .int x4, .int x7] st (Qi fun v2 s1 => ((v2 = 0 → X κ 27 [(0, .ref 7), (1, .int x1), (2, .int x2), (3, .int x3), (4, .int x4), (6, .int x6), (7, .int (x7 + 1))] [] s1) ∧ (¬ v2 = 0 → ((¬ x6 = 0 → X κ 27 [(0, .ref 7), (1, .int x1), (2, .int x2), (3, .int x3), (4, .int x4), (6, .int (x6 + (-1))), (7, .int (x7 + 1))] [] s1) ∧ (x6 = 0 → Q (some (.int x7)) s1)))))))) : X κ 27 [(0, .ref 7), (1, .int x1), (2, .int x2), (3, .int x3), (4, .int x4), (6, .int x6), (7, .int x7)] [] st := by
  refine X_iload C dX7_meaning_27 (j := 6) rfl ?_
  refine X_sipush C (v := 400) (by decide) dX7_meaning_29 ?_
  refine X_icmp_gt C dX7_meaning_32 (tgt := 66) (by decide) (fun c => ?_) (fun c => ?_)
  · replace h := h.1 c
    refine X_iconst C (v := (-1)) (by decide) dX7_meaning_66 ?_
    exact X_iret C Z rfl dX7_meaning_67 h
  · replace h := h.2 c
    refine X_aload_n C dX7_meaning_35 rfl (j := 0) rfl ?_
    refine X_iload_n C dX7_meaning_36 rfl (j := 1) rfl ?_
    refine X_iload_n C dX7_meaning_37 rfl (j := 2) rfl ?_
    refine X_iload_n C dX7_meaning_38 rfl (j := 3) rfl ?_
    refine X_iload C dX7_meaning_39 (j := 4) rfl ?_
    refine X_iload C dX7_meaning_41 (j := 6) rfl ?_
    refine X_callV C dX7_meaning_43 pw_RX7_122 (b := 7) (as := [.int x1, .int x2, .int x3, .int x4, .int x7]) (S := []) sh_7 rfl rfl rfl (Nat.le_of_ble_eq_true rfl) (Ct_mono h ?_)
    rintro _ s1 ⟨v2, rfl, h⟩
    show X κ 46 [(0, .ref 7), (1, .int x1), (2, .int x2), (3, .int x3), (4, .int x4), (6, .int x6), (7, .int x7)] [.int v2] s1
    refine X_if_eq C dX7_meaning_46 (tgt := 60) (by decide) (fun c => ?_) (fun c => ?_)
    · replace h := h.1 c
      refine X_iinc C dX7_meaning_60 (j := 6) rfl (v := x7 + 1) rfl (by decide) (L' := [(7, .int (x7 + 1)), (0, .ref 7), (1, .int x1), (2, .int x2), (3, .int x3), (4, .int x4), (6, .int x6)]) rfl ?_
      refine X_goto C dX7_meaning_63 (tgt := 27) (by decide) ?_
      refine X_loc [1, 2, 3, 4, 5, 6, 0] rfl ?_
      exact h
    · replace h := h.2 c
      refine X_iload C dX7_meaning_49 (j := 5) rfl ?_
      refine X_if_ne C dX7_meaning_51 (tgt := 57) (by decide) (fun c => ?_) (fun c => ?_)
      · replace h := h.1 c
        refine X_iinc C dX7_meaning_57 (j := 5) rfl (v := x6 + (-1)) rfl (by decide) (L' := [(6, .int (x6 + (-1))), (0, .ref 7), (1, .int x1), (2, .int x2), (3, .int x3), (4, .int x4), (7, .int x7)]) rfl ?_
        refine X_iinc C dX7_meaning_60 (j := 6) rfl (v := x7 + 1) rfl (by decide) (L' := [(7, .int (x7 + 1)), (6, .int (x6 + (-1))), (0, .ref 7), (1, .int x1), (2, .int x2), (3, .int x3), (4, .int x4)]) rfl ?_
        refine X_goto C dX7_meaning_63 (tgt := 27) (by decide) ?_
        refine X_loc [2, 3, 4, 5, 6, 1, 0] rfl ?_
        exact h
      · replace h := h.2 c
        refine X_iload C dX7_meaning_54 (j := 6) rfl ?_
        exact X_iret C Z rfl dX7_meaning_56 h
set_option maxHeartbeats 4000000 in
set_option maxRecDepth 100000 in
theorem eX7_meaning {d : Nat} {Q : Option Value → xSt → Prop} (a1 : Int32) (a2 : Int32) (a3 : Int32) (a4 : Int32) (a5 : Int32) (st : xSt) (h : ∀ κ : xK, Cx κ M_X7_meaning (d + 1) → xR κ Q → Ct d M_X7_isPoint [.ref 7, .int a1, .int a2, .int a3, .int a4] st (Qi fun v2 s1 => ((v2 = 0 → Q (some (.int ((-2)))) s1) ∧ (¬ v2 = 0 → ((0 ≤ a5 → X κ 27 [(0, .ref 7), (1, .int a1), (2, .int a2), (3, .int a3), (4, .int a4), (6, .int a5), (7, .int 1)] [] s1) ∧ (¬ 0 ≤ a5 → Q (some (.int ((-2)))) s1)))))) : Ct (d + 1) M_X7_meaning [.ref 7, .int a1, .int a2, .int a3, .int a4, .int a5] st Q := by
  refine Ct_of (by decide +kernel) (Nat.le_of_ble_eq_true rfl) (fun κ C Z => ?_)
  replace h := h κ C Z
  show X κ 0 [(0, .ref 7), (1, .int a1), (2, .int a2), (3, .int a3), (4, .int a4), (5, .int a5)] [] st
  refine X_aload_n C dX7_meaning_0 rfl (j := 0) rfl ?_
  refine X_iload_n C dX7_meaning_1 rfl (j := 1) rfl ?_
  refine X_iload_n C dX7_meaning_2 rfl (j := 2) rfl ?_
  refine X_iload_n C dX7_meaning_3 rfl (j := 3) rfl ?_
  refine X_iload C dX7_meaning_4 (j := 4) rfl ?_
  refine X_callV C dX7_meaning_6 pw_RX7_118 (b := 7) (as := [.int a1, .int a2, .int a3, .int a4]) (S := []) sh_7 rfl rfl rfl (Nat.le_of_ble_eq_true rfl) (Ct_mono h ?_)
  rintro _ s1 ⟨v2, rfl, h⟩
  show X κ 9 [(0, .ref 7), (1, .int a1), (2, .int a2), (3, .int a3), (4, .int a4), (5, .int a5)] [.int v2] s1
  refine X_if_eq C dX7_meaning_9 (tgt := 17) (by decide) (fun c => ?_) (fun c => ?_)
  · replace h := h.1 c
    refine X_bipush C (v := (-2)) (by decide) dX7_meaning_17 ?_
    exact X_iret C Z rfl dX7_meaning_19 h
  · replace h := h.2 c
    refine X_iload C dX7_meaning_12 (j := 5) rfl ?_
    refine X_if_ge C dX7_meaning_14 (tgt := 20) (by decide) (fun c => ?_) (fun c => ?_)
    · replace h := h.1 c
      refine X_iload C dX7_meaning_20 (j := 5) rfl ?_
      refine X_istore C dX7_meaning_22 (by decide) (L' := [(6, .int a5), (0, .ref 7), (1, .int a1), (2, .int a2), (3, .int a3), (4, .int a4), (5, .int a5)]) rfl ?_
      refine X_iconst C (v := 1) (by decide) dX7_meaning_24 ?_
      refine X_istore C dX7_meaning_25 (by decide) (L' := [(7, .int 1), (6, .int a5), (0, .ref 7), (1, .int a1), (2, .int a2), (3, .int a3), (4, .int a4), (5, .int a5)]) rfl ?_
      refine X_loc [2, 3, 4, 5, 6, 1, 0] rfl ?_
      exact h
    · replace h := h.2 c
      refine X_bipush C (v := (-2)) (by decide) dX7_meaning_17 ?_
      exact X_iret C Z rfl dX7_meaning_19 h
set_option maxHeartbeats 4000000 in
set_option maxRecDepth 100000 in
theorem eX7_mat {d : Nat} {Q : Option Value → xSt → Prop} (a1 : Int32) (st : xSt) (h : Ct d M_X7_in [.int a1, .int 1, .int 40] st (Qi fun v2 s1 => ((¬ v2 = 0 → Q (some (.int (s1.1 7 5))) (xup s1 7 5 a1)) ∧ (v2 = 0 → Q (some (.int ((-2)))) s1)))) : Ct (d + 1) M_X7_mat [.ref 7, .int a1] st Q := by
  refine Ct_of (by decide +kernel) (Nat.le_of_ble_eq_true rfl) (fun κ C Z => ?_)
  show X κ 0 [(0, .ref 7), (1, .int a1)] [] st
  refine X_iload_n C dX7_mat_0 rfl (j := 1) rfl ?_
  refine X_iconst C (v := 1) (by decide) dX7_mat_1 ?_
  refine X_bipush C (v := 40) (by decide) dX7_mat_2 ?_
  refine X_callS C dX7_mat_4 pw_RX7_75 (as := [.int a1, .int 1, .int 40]) (S := []) rfl rfl (Nat.le_of_ble_eq_true rfl) (Ct_mono h ?_)
  rintro _ s1 ⟨v2, rfl, h⟩
  show X κ 7 [(0, .ref 7), (1, .int a1)] [.int v2] s1
  refine X_if_ne C dX7_mat_7 (tgt := 13) (by decide) (fun c => ?_) (fun c => ?_)
  · replace h := h.1 c
    refine X_aload_n C dX7_mat_13 rfl (j := 0) rfl ?_
    refine X_getI C sh_7 rfl fw_RX7_23 dX7_mat_14 ?_
    refine X_istore_n C dX7_mat_17 rfl (by decide) (L' := [(2, .int (s1.1 7 5)), (0, .ref 7), (1, .int a1)]) rfl ?_
    refine X_aload_n C dX7_mat_18 rfl (j := 1) rfl ?_
    refine X_iload_n C dX7_mat_19 rfl (j := 2) rfl ?_
    refine X_putI C sh_7 rfl fp_RX7_23 dX7_mat_20 ?_
    refine X_iload_n C dX7_mat_23 rfl (j := 0) rfl ?_
    exact X_iret C Z rfl dX7_mat_24 h
  · replace h := h.2 c
    refine X_bipush C (v := (-2)) (by decide) dX7_mat_10 ?_
    exact X_iret C Z rfl dX7_mat_12 h
set_option maxHeartbeats 4000000 in
set_option maxRecDepth 100000 in
theorem eX7_clueMore {d : Nat} {Q : Option Value → xSt → Prop} (a1 : Int32) (a2 : Int32) (a3 : Int32) (a4 : Int32) (a5 : Int32) (a6 : Int32) (st : xSt) (h : ((¬ (st.1 7 6) = 8 → vp_in (6 * (st.1 7 6)) 48 ∧ vp_in ((6 * (st.1 7 6)) + 1) 48 ∧ vp_in ((6 * (st.1 7 6)) + 2) 48 ∧ vp_in ((6 * (st.1 7 6)) + 3) 48 ∧ vp_in ((6 * (st.1 7 6)) + 4) 48 ∧ vp_in ((6 * (st.1 7 6)) + 5) 48 ∧ Q (some (.int ((xup (xup (xup (xup (xup (xup (xup st 32 (6 * (st.1 7 6) : Int32).toNatClampNeg a1) 32 ((6 * (st.1 7 6)) + 1 : Int32).toNatClampNeg a2) 32 ((6 * (st.1 7 6)) + 2 : Int32).toNatClampNeg a3) 32 ((6 * (st.1 7 6)) + 3 : Int32).toNatClampNeg a4) 32 ((6 * (st.1 7 6)) + 4 : Int32).toNatClampNeg a5) 32 ((6 * (st.1 7 6)) + 5 : Int32).toNatClampNeg a6) 7 6 (((xup (xup (xup (xup (xup (xup st 32 (6 * (st.1 7 6) : Int32).toNatClampNeg a1) 32 ((6 * (st.1 7 6)) + 1 : Int32).toNatClampNeg a2) 32 ((6 * (st.1 7 6)) + 2 : Int32).toNatClampNeg a3) 32 ((6 * (st.1 7 6)) + 3 : Int32).toNatClampNeg a4) 32 ((6 * (st.1 7 6)) + 4 : Int32).toNatClampNeg a5) 32 ((6 * (st.1 7 6)) + 5 : Int32).toNatClampNeg a6).1 7 6) + 1)).1 7 6))) (xup (xup (xup (xup (xup (xup (xup st 32 (6 * (st.1 7 6) : Int32).toNatClampNeg a1) 32 ((6 * (st.1 7 6)) + 1 : Int32).toNatClampNeg a2) 32 ((6 * (st.1 7 6)) + 2 : Int32).toNatClampNeg a3) 32 ((6 * (st.1 7 6)) + 3 : Int32).toNatClampNeg a4) 32 ((6 * (st.1 7 6)) + 4 : Int32).toNatClampNeg a5) 32 ((6 * (st.1 7 6)) + 5 : Int32).toNatClampNeg a6) 7 6 (((xup (xup (xup (xup (xup (xup st 32 (6 * (st.1 7 6) : Int32).toNatClampNeg a1) 32 ((6 * (st.1 7 6)) + 1 : Int32).toNatClampNeg a2) 32 ((6 * (st.1 7 6)) + 2 : Int32).toNatClampNeg a3) 32 ((6 * (st.1 7 6)) + 3 : Int32).toNatClampNeg a4) 32 ((6 * (st.1 7 6)) + 4 : Int32).toNatClampNeg a5) 32 ((6 * (st.1 7 6)) + 5 : Int32).toNatClampNeg a6).1 7 6) + 1))) ∧ ((st.1 7 6) = 8 → Q (some (.int ((-4)))) st))) : Ct (d) M_X7_clueMore [.ref 7, .int a1, .int a2, .int a3, .int a4, .int a5, .int a6] st Q := by
  refine Ct_of (by decide +kernel) (Nat.le_of_ble_eq_true rfl) (fun κ C Z => ?_)
  show X κ 0 [(0, .ref 7), (1, .int a1), (2, .int a2), (3, .int a3), (4, .int a4), (5, .int a5), (6, .int a6)] [] st
  refine X_aload_n C dX7_clueMore_0 rfl (j := 0) rfl ?_
  refine X_getI C sh_7 rfl fw_RX7_126 dX7_clueMore_1 ?_
  refine X_bipush C (v := 8) (by decide) dX7_clueMore_4 ?_
  refine X_icmp_ne C dX7_clueMore_6 (tgt := 12) (by decide) (fun c => ?_) (fun c => ?_)
  · replace h := h.1 c
    refine X_bipush C (v := 6) (by decide) dX7_clueMore_12 ?_
    refine X_aload_n C dX7_clueMore_14 rfl (j := 0) rfl ?_
    refine X_getI C sh_7 rfl fw_RX7_126 dX7_clueMore_15 ?_
    refine X_imul C dX7_clueMore_18 ?_
    refine X_istore C dX7_clueMore_19 (by decide) (L' := [(7, .int (6 * (st.1 7 6))), (0, .ref 7), (1, .int a1), (2, .int a2), (3, .int a3), (4, .int a4), (5, .int a5), (6, .int a6)]) rfl ?_
    refine X_aload_n C dX7_clueMore_21 rfl (j := 1) rfl ?_
    refine X_getR C sh_7 rfl fw_RX7_27 dX7_clueMore_22 ?_
    refine X_iload C dX7_clueMore_25 (j := 0) rfl ?_
    refine X_iload_n C dX7_clueMore_27 rfl (j := 2) rfl ?_
    obtain ⟨g1, h⟩ := h
    refine X_iast C sh_32 g1 dX7_clueMore_28 ?_
    refine X_aload_n C dX7_clueMore_29 rfl (j := 1) rfl ?_
    refine X_getR C sh_7 rfl fw_RX7_27 dX7_clueMore_30 ?_
    refine X_iload C dX7_clueMore_33 (j := 0) rfl ?_
    refine X_iconst C (v := 1) (by decide) dX7_clueMore_35 ?_
    refine X_iadd C dX7_clueMore_36 ?_
    refine X_iload_n C dX7_clueMore_37 rfl (j := 3) rfl ?_
    obtain ⟨g2, h⟩ := h
    refine X_iast C sh_32 g2 dX7_clueMore_38 ?_
    refine X_aload_n C dX7_clueMore_39 rfl (j := 1) rfl ?_
    refine X_getR C sh_7 rfl fw_RX7_27 dX7_clueMore_40 ?_
    refine X_iload C dX7_clueMore_43 (j := 0) rfl ?_
    refine X_iconst C (v := 2) (by decide) dX7_clueMore_45 ?_
    refine X_iadd C dX7_clueMore_46 ?_
    refine X_iload_n C dX7_clueMore_47 rfl (j := 4) rfl ?_
    obtain ⟨g3, h⟩ := h
    refine X_iast C sh_32 g3 dX7_clueMore_48 ?_
    refine X_aload_n C dX7_clueMore_49 rfl (j := 1) rfl ?_
    refine X_getR C sh_7 rfl fw_RX7_27 dX7_clueMore_50 ?_
    refine X_iload C dX7_clueMore_53 (j := 0) rfl ?_
    refine X_iconst C (v := 3) (by decide) dX7_clueMore_55 ?_
    refine X_iadd C dX7_clueMore_56 ?_
    refine X_iload C dX7_clueMore_57 (j := 5) rfl ?_
    obtain ⟨g4, h⟩ := h
    refine X_iast C sh_32 g4 dX7_clueMore_59 ?_
    refine X_aload_n C dX7_clueMore_60 rfl (j := 1) rfl ?_
    refine X_getR C sh_7 rfl fw_RX7_27 dX7_clueMore_61 ?_
    refine X_iload C dX7_clueMore_64 (j := 0) rfl ?_
    refine X_iconst C (v := 4) (by decide) dX7_clueMore_66 ?_
    refine X_iadd C dX7_clueMore_67 ?_
    refine X_iload C dX7_clueMore_68 (j := 6) rfl ?_
    obtain ⟨g5, h⟩ := h
    refine X_iast C sh_32 g5 dX7_clueMore_70 ?_
    refine X_aload_n C dX7_clueMore_71 rfl (j := 1) rfl ?_
    refine X_getR C sh_7 rfl fw_RX7_27 dX7_clueMore_72 ?_
    refine X_iload C dX7_clueMore_75 (j := 0) rfl ?_
    refine X_iconst C (v := 5) (by decide) dX7_clueMore_77 ?_
    refine X_iadd C dX7_clueMore_78 ?_
    refine X_iload C dX7_clueMore_79 (j := 7) rfl ?_
    obtain ⟨g6, h⟩ := h
    refine X_iast C sh_32 g6 dX7_clueMore_81 ?_
    refine X_aload_n C dX7_clueMore_82 rfl (j := 1) rfl ?_
    refine X_dup C rfl dX7_clueMore_83 ?_
    refine X_getI C sh_7 rfl fw_RX7_126 dX7_clueMore_84 ?_
    refine X_iconst C (v := 1) (by decide) dX7_clueMore_87 ?_
    refine X_iadd C dX7_clueMore_88 ?_
    refine X_putI C sh_7 rfl fp_RX7_126 dX7_clueMore_89 ?_
    refine X_aload_n C dX7_clueMore_92 rfl (j := 1) rfl ?_
    refine X_getI C sh_7 rfl fw_RX7_126 dX7_clueMore_93 ?_
    exact X_iret C Z rfl dX7_clueMore_96 h
  · replace h := h.2 c
    refine X_bipush C (v := (-4)) (by decide) dX7_clueMore_9 ?_
    exact X_iret C Z rfl dX7_clueMore_11 h
set_option maxHeartbeats 4000000 in
set_option maxRecDepth 100000 in
theorem eX7_isUnknown {d : Nat} {Q : Option Value → xSt → Prop} (a0 : Int32) (st : xSt) (h : Ct d M_X7_in [.int a0, .int 0, .int 2] st (Qi fun v2 s1 => (v2 = 0 ∨ v2 = 1) ∧ Q (some (.int v2)) s1)) : Ct (d + 1) M_X7_isUnknown [.int a0] st Q := by
  refine Ct_of (by decide +kernel) (Nat.le_of_ble_eq_true rfl) (fun κ C Z => ?_)
  show X κ 0 [(0, .int a0)] [] st
  refine X_iload_n C dX7_isUnknown_0 rfl (j := 0) rfl ?_
  refine X_iconst C (v := 0) (by decide) dX7_isUnknown_1 ?_
  refine X_iconst C (v := 2) (by decide) dX7_isUnknown_2 ?_
  refine X_callS C dX7_isUnknown_3 pw_RX7_75 (as := [.int a0, .int 0, .int 2]) (S := []) rfl rfl (Nat.le_of_ble_eq_true rfl) (Ct_mono h ?_)
  rintro _ s1 ⟨v2, rfl, h⟩
  show X κ 6 [(0, .int a0)] [.int v2] s1
  exact X_zret C Z rfl h.1 dX7_isUnknown_6 h.2
set_option maxHeartbeats 4000000 in
set_option maxRecDepth 100000 in
theorem eX7_clue {d : Nat} {Q : Option Value → xSt → Prop} (a1 : Int32) (a2 : Int32) (a3 : Int32) (a4 : Int32) (a5 : Int32) (st : xSt) (h : Ct d M_X7_isUnknown [.int a1] st (Qi fun v2 s1 => ((v2 = 0 → Q (some (.int ((-2)))) s1) ∧ (¬ v2 = 0 → Ct d M_X7_isPoint [.ref 7, .int a2, .int a3, .int a4, .int a5] s1 (Qi fun v4 s3 => ((v4 = 0 → Q (some (.int ((-2)))) s3) ∧ (¬ v4 = 0 → Ct d M_X7_clueMore [.ref 7, .int 0, .int a1, .int a2, .int a3, .int a4, .int a5] s3 (Qi fun v6 s5 => Q (some (.int v6)) s5)))))))) : Ct (d + 1) M_X7_clue [.ref 7, .int a1, .int a2, .int a3, .int a4, .int a5] st Q := by
  refine Ct_of (by decide +kernel) (Nat.le_of_ble_eq_true rfl) (fun κ C Z => ?_)
  show X κ 0 [(0, .ref 7), (1, .int a1), (2, .int a2), (3, .int a3), (4, .int a4), (5, .int a5)] [] st
  refine X_iload_n C dX7_clue_0 rfl (j := 1) rfl ?_
  refine X_callS C dX7_clue_1 pw_RX7_129 (as := [.int a1]) (S := []) rfl rfl (Nat.le_of_ble_eq_true rfl) (Ct_mono h ?_)
  rintro _ s1 ⟨v2, rfl, h⟩
  show X κ 4 [(0, .ref 7), (1, .int a1), (2, .int a2), (3, .int a3), (4, .int a4), (5, .int a5)] [.int v2] s1
  refine X_if_eq C dX7_clue_4 (tgt := 35) (by decide) (fun c => ?_) (fun c => ?_)
  · replace h := h.1 c
    refine X_bipush C (v := (-2)) (by decide) dX7_clue_35 ?_
    exact X_iret C Z rfl dX7_clue_37 h
  · replace h := h.2 c
    refine X_aload_n C dX7_clue_7 rfl (j := 0) rfl ?_
    refine X_iload_n C dX7_clue_8 rfl (j := 2) rfl ?_
    refine X_iload_n C dX7_clue_9 rfl (j := 3) rfl ?_
    refine X_iload C dX7_clue_10 (j := 4) rfl ?_
    refine X_iload C dX7_clue_12 (j := 5) rfl ?_
    refine X_callV C dX7_clue_14 pw_RX7_118 (b := 7) (as := [.int a2, .int a3, .int a4, .int a5]) (S := []) sh_7 rfl rfl rfl (Nat.le_of_ble_eq_true rfl) (Ct_mono h ?_)
    rintro _ s3 ⟨v4, rfl, h⟩
    show X κ 17 [(0, .ref 7), (1, .int a1), (2, .int a2), (3, .int a3), (4, .int a4), (5, .int a5)] [.int v4] s3
    refine X_if_eq C dX7_clue_17 (tgt := 35) (by decide) (fun c => ?_) (fun c => ?_)
    · replace h := h.1 c
      refine X_bipush C (v := (-2)) (by decide) dX7_clue_35 ?_
      exact X_iret C Z rfl dX7_clue_37 h
    · replace h := h.2 c
      refine X_aload_n C dX7_clue_20 rfl (j := 0) rfl ?_
      refine X_iconst C (v := 0) (by decide) dX7_clue_21 ?_
      refine X_iload_n C dX7_clue_22 rfl (j := 1) rfl ?_
      refine X_iload_n C dX7_clue_23 rfl (j := 2) rfl ?_
      refine X_iload_n C dX7_clue_24 rfl (j := 3) rfl ?_
      refine X_iload C dX7_clue_25 (j := 4) rfl ?_
      refine X_iload C dX7_clue_27 (j := 5) rfl ?_
      refine X_callV C dX7_clue_29 pw_RX7_132 (b := 7) (as := [.int 0, .int a1, .int a2, .int a3, .int a4, .int a5]) (S := []) sh_7 rfl rfl rfl (Nat.le_of_ble_eq_true rfl) (Ct_mono h ?_)
      rintro _ s5 ⟨v6, rfl, h⟩
      show X κ 32 [(0, .ref 7), (1, .int a1), (2, .int a2), (3, .int a3), (4, .int a4), (5, .int a5)] [.int v6] s5
      refine X_goto C dX7_clue_32 (tgt := 37) (by decide) ?_
      exact X_iret C Z rfl dX7_clue_37 h
set_option maxHeartbeats 4000000 in
set_option maxRecDepth 100000 in
theorem eX7_sum {d : Nat} {Q : Option Value → xSt → Prop} (a1 : Int32) (a2 : Int32) (a3 : Int32) (st : xSt) (h : Ct d M_X7_isUnknown [.int a1] st (Qi fun v2 s1 => ((v2 = 0 → Q (some (.int ((-2)))) s1) ∧ (¬ v2 = 0 → Ct d M_X7_isUnknown [.int a2] s1 (Qi fun v4 s3 => ((v4 = 0 → Q (some (.int ((-2)))) s3) ∧ (¬ v4 = 0 → Ct d M_X7_isUnknown [.int a3] s3 (Qi fun v6 s5 => ((v6 = 0 → Q (some (.int ((-2)))) s5) ∧ (¬ v6 = 0 → Ct d M_X7_clueMore [.ref 7, .int 1, .int a1, .int a2, .int a3, .int 0, .int 0] s5 (Qi fun v8 s7 => Q (some (.int v8)) s7))))))))))) : Ct (d + 1) M_X7_sum [.ref 7, .int a1, .int a2, .int a3] st Q := by
  refine Ct_of (by decide +kernel) (Nat.le_of_ble_eq_true rfl) (fun κ C Z => ?_)
  show X κ 0 [(0, .ref 7), (1, .int a1), (2, .int a2), (3, .int a3)] [] st
  refine X_iload_n C dX7_sum_0 rfl (j := 1) rfl ?_
  refine X_callS C dX7_sum_1 pw_RX7_129 (as := [.int a1]) (S := []) rfl rfl (Nat.le_of_ble_eq_true rfl) (Ct_mono h ?_)
  rintro _ s1 ⟨v2, rfl, h⟩
  show X κ 4 [(0, .ref 7), (1, .int a1), (2, .int a2), (3, .int a3)] [.int v2] s1
  refine X_if_eq C dX7_sum_4 (tgt := 34) (by decide) (fun c => ?_) (fun c => ?_)
  · replace h := h.1 c
    refine X_bipush C (v := (-2)) (by decide) dX7_sum_34 ?_
    exact X_iret C Z rfl dX7_sum_36 h
  · replace h := h.2 c
    refine X_iload_n C dX7_sum_7 rfl (j := 2) rfl ?_
    refine X_callS C dX7_sum_8 pw_RX7_129 (as := [.int a2]) (S := []) rfl rfl (Nat.le_of_ble_eq_true rfl) (Ct_mono h ?_)
    rintro _ s3 ⟨v4, rfl, h⟩
    show X κ 11 [(0, .ref 7), (1, .int a1), (2, .int a2), (3, .int a3)] [.int v4] s3
    refine X_if_eq C dX7_sum_11 (tgt := 34) (by decide) (fun c => ?_) (fun c => ?_)
    · replace h := h.1 c
      refine X_bipush C (v := (-2)) (by decide) dX7_sum_34 ?_
      exact X_iret C Z rfl dX7_sum_36 h
    · replace h := h.2 c
      refine X_iload_n C dX7_sum_14 rfl (j := 3) rfl ?_
      refine X_callS C dX7_sum_15 pw_RX7_129 (as := [.int a3]) (S := []) rfl rfl (Nat.le_of_ble_eq_true rfl) (Ct_mono h ?_)
      rintro _ s5 ⟨v6, rfl, h⟩
      show X κ 18 [(0, .ref 7), (1, .int a1), (2, .int a2), (3, .int a3)] [.int v6] s5
      refine X_if_eq C dX7_sum_18 (tgt := 34) (by decide) (fun c => ?_) (fun c => ?_)
      · replace h := h.1 c
        refine X_bipush C (v := (-2)) (by decide) dX7_sum_34 ?_
        exact X_iret C Z rfl dX7_sum_36 h
      · replace h := h.2 c
        refine X_aload_n C dX7_sum_21 rfl (j := 0) rfl ?_
        refine X_iconst C (v := 1) (by decide) dX7_sum_22 ?_
        refine X_iload_n C dX7_sum_23 rfl (j := 1) rfl ?_
        refine X_iload_n C dX7_sum_24 rfl (j := 2) rfl ?_
        refine X_iload_n C dX7_sum_25 rfl (j := 3) rfl ?_
        refine X_iconst C (v := 0) (by decide) dX7_sum_26 ?_
        refine X_iconst C (v := 0) (by decide) dX7_sum_27 ?_
        refine X_callV C dX7_sum_28 pw_RX7_132 (b := 7) (as := [.int 1, .int a1, .int a2, .int a3, .int 0, .int 0]) (S := []) sh_7 rfl rfl rfl (Nat.le_of_ble_eq_true rfl) (Ct_mono h ?_)
        rintro _ s7 ⟨v8, rfl, h⟩
        show X κ 31 [(0, .ref 7), (1, .int a1), (2, .int a2), (3, .int a3)] [.int v8] s7
        refine X_goto C dX7_sum_31 (tgt := 36) (by decide) ?_
        exact X_iret C Z rfl dX7_sum_36 h
set_option maxHeartbeats 4000000 in
set_option maxRecDepth 100000 in
theorem eX7_less {d : Nat} {Q : Option Value → xSt → Prop} (a1 : Int32) (a2 : Int32) (st : xSt) (h : Ct d M_X7_isUnknown [.int a1] st (Qi fun v2 s1 => ((v2 = 0 → Q (some (.int ((-2)))) s1) ∧ (¬ v2 = 0 → Ct d M_X7_isUnknown [.int a2] s1 (Qi fun v4 s3 => ((v4 = 0 → Q (some (.int ((-2)))) s3) ∧ (¬ v4 = 0 → ((a1 = a2 → Q (some (.int ((-2)))) s3) ∧ (¬ a1 = a2 → Ct d M_X7_clueMore [.ref 7, .int 2, .int a1, .int a2, .int 0, .int 0, .int 0] s3 (Qi fun v6 s5 => Q (some (.int v6)) s5)))))))))) : Ct (d + 1) M_X7_less [.ref 7, .int a1, .int a2] st Q := by
  refine Ct_of (by decide +kernel) (Nat.le_of_ble_eq_true rfl) (fun κ C Z => ?_)
  show X κ 0 [(0, .ref 7), (1, .int a1), (2, .int a2)] [] st
  refine X_iload_n C dX7_less_0 rfl (j := 1) rfl ?_
  refine X_callS C dX7_less_1 pw_RX7_129 (as := [.int a1]) (S := []) rfl rfl (Nat.le_of_ble_eq_true rfl) (Ct_mono h ?_)
  rintro _ s1 ⟨v2, rfl, h⟩
  show X κ 4 [(0, .ref 7), (1, .int a1), (2, .int a2)] [.int v2] s1
  refine X_if_eq C dX7_less_4 (tgt := 32) (by decide) (fun c => ?_) (fun c => ?_)
  · replace h := h.1 c
    refine X_bipush C (v := (-2)) (by decide) dX7_less_32 ?_
    exact X_iret C Z rfl dX7_less_34 h
  · replace h := h.2 c
    refine X_iload_n C dX7_less_7 rfl (j := 2) rfl ?_
    refine X_callS C dX7_less_8 pw_RX7_129 (as := [.int a2]) (S := []) rfl rfl (Nat.le_of_ble_eq_true rfl) (Ct_mono h ?_)
    rintro _ s3 ⟨v4, rfl, h⟩
    show X κ 11 [(0, .ref 7), (1, .int a1), (2, .int a2)] [.int v4] s3
    refine X_if_eq C dX7_less_11 (tgt := 32) (by decide) (fun c => ?_) (fun c => ?_)
    · replace h := h.1 c
      refine X_bipush C (v := (-2)) (by decide) dX7_less_32 ?_
      exact X_iret C Z rfl dX7_less_34 h
    · replace h := h.2 c
      refine X_iload_n C dX7_less_14 rfl (j := 1) rfl ?_
      refine X_iload_n C dX7_less_15 rfl (j := 2) rfl ?_
      refine X_icmp_eq C dX7_less_16 (tgt := 32) (by decide) (fun c => ?_) (fun c => ?_)
      · replace h := h.1 c
        refine X_bipush C (v := (-2)) (by decide) dX7_less_32 ?_
        exact X_iret C Z rfl dX7_less_34 h
      · replace h := h.2 c
        refine X_aload_n C dX7_less_19 rfl (j := 0) rfl ?_
        refine X_iconst C (v := 2) (by decide) dX7_less_20 ?_
        refine X_iload_n C dX7_less_21 rfl (j := 1) rfl ?_
        refine X_iload_n C dX7_less_22 rfl (j := 2) rfl ?_
        refine X_iconst C (v := 0) (by decide) dX7_less_23 ?_
        refine X_iconst C (v := 0) (by decide) dX7_less_24 ?_
        refine X_iconst C (v := 0) (by decide) dX7_less_25 ?_
        refine X_callV C dX7_less_26 pw_RX7_132 (b := 7) (as := [.int 2, .int a1, .int a2, .int 0, .int 0, .int 0]) (S := []) sh_7 rfl rfl rfl (Nat.le_of_ble_eq_true rfl) (Ct_mono h ?_)
        rintro _ s5 ⟨v6, rfl, h⟩
        show X κ 29 [(0, .ref 7), (1, .int a1), (2, .int a2)] [.int v6] s5
        refine X_goto C dX7_less_29 (tgt := 34) (by decide) ?_
        exact X_iret C Z rfl dX7_less_34 h
set_option maxHeartbeats 4000000 in
set_option maxRecDepth 100000 in
theorem eX7_mats {d : Nat} {Q : Option Value → xSt → Prop} (a1 : Int32) (a2 : Int32) (a3 : Int32) (st : xSt) (h : Ct d M_X7_isUnknown [.int a1] st (Qi fun v2 s1 => ((v2 = 0 → Q (some (.int ((-2)))) s1) ∧ (¬ v2 = 0 → Ct d M_X7_in [.int a2, .int 1, .int a3] s1 (Qi fun v4 s3 => ((v4 = 0 → Q (some (.int ((-2)))) s3) ∧ (¬ v4 = 0 → Ct d M_X7_in [.int a3, .int 1, .int 40] s3 (Qi fun v6 s5 => ((v6 = 0 → Q (some (.int ((-2)))) s5) ∧ (¬ v6 = 0 → Ct d M_X7_clueMore [.ref 7, .int 3, .int a1, .int a2, .int a3, .int 0, .int 0] s5 (Qi fun v8 s7 => Q (some (.int v8)) s7))))))))))) : Ct (d + 1) M_X7_mats [.ref 7, .int a1, .int a2, .int a3] st Q := by
  refine Ct_of (by decide +kernel) (Nat.le_of_ble_eq_true rfl) (fun κ C Z => ?_)
  show X κ 0 [(0, .ref 7), (1, .int a1), (2, .int a2), (3, .int a3)] [] st
  refine X_iload_n C dX7_mats_0 rfl (j := 1) rfl ?_
  refine X_callS C dX7_mats_1 pw_RX7_129 (as := [.int a1]) (S := []) rfl rfl (Nat.le_of_ble_eq_true rfl) (Ct_mono h ?_)
  rintro _ s1 ⟨v2, rfl, h⟩
  show X κ 4 [(0, .ref 7), (1, .int a1), (2, .int a2), (3, .int a3)] [.int v2] s1
  refine X_if_eq C dX7_mats_4 (tgt := 39) (by decide) (fun c => ?_) (fun c => ?_)
  · replace h := h.1 c
    refine X_bipush C (v := (-2)) (by decide) dX7_mats_39 ?_
    exact X_iret C Z rfl dX7_mats_41 h
  · replace h := h.2 c
    refine X_iload_n C dX7_mats_7 rfl (j := 2) rfl ?_
    refine X_iconst C (v := 1) (by decide) dX7_mats_8 ?_
    refine X_iload_n C dX7_mats_9 rfl (j := 3) rfl ?_
    refine X_callS C dX7_mats_10 pw_RX7_75 (as := [.int a2, .int 1, .int a3]) (S := []) rfl rfl (Nat.le_of_ble_eq_true rfl) (Ct_mono h ?_)
    rintro _ s3 ⟨v4, rfl, h⟩
    show X κ 13 [(0, .ref 7), (1, .int a1), (2, .int a2), (3, .int a3)] [.int v4] s3
    refine X_if_eq C dX7_mats_13 (tgt := 39) (by decide) (fun c => ?_) (fun c => ?_)
    · replace h := h.1 c
      refine X_bipush C (v := (-2)) (by decide) dX7_mats_39 ?_
      exact X_iret C Z rfl dX7_mats_41 h
    · replace h := h.2 c
      refine X_iload_n C dX7_mats_16 rfl (j := 3) rfl ?_
      refine X_iconst C (v := 1) (by decide) dX7_mats_17 ?_
      refine X_bipush C (v := 40) (by decide) dX7_mats_18 ?_
      refine X_callS C dX7_mats_20 pw_RX7_75 (as := [.int a3, .int 1, .int 40]) (S := []) rfl rfl (Nat.le_of_ble_eq_true rfl) (Ct_mono h ?_)
      rintro _ s5 ⟨v6, rfl, h⟩
      show X κ 23 [(0, .ref 7), (1, .int a1), (2, .int a2), (3, .int a3)] [.int v6] s5
      refine X_if_eq C dX7_mats_23 (tgt := 39) (by decide) (fun c => ?_) (fun c => ?_)
      · replace h := h.1 c
        refine X_bipush C (v := (-2)) (by decide) dX7_mats_39 ?_
        exact X_iret C Z rfl dX7_mats_41 h
      · replace h := h.2 c
        refine X_aload_n C dX7_mats_26 rfl (j := 0) rfl ?_
        refine X_iconst C (v := 3) (by decide) dX7_mats_27 ?_
        refine X_iload_n C dX7_mats_28 rfl (j := 1) rfl ?_
        refine X_iload_n C dX7_mats_29 rfl (j := 2) rfl ?_
        refine X_iload_n C dX7_mats_30 rfl (j := 3) rfl ?_
        refine X_iconst C (v := 0) (by decide) dX7_mats_31 ?_
        refine X_iconst C (v := 0) (by decide) dX7_mats_32 ?_
        refine X_callV C dX7_mats_33 pw_RX7_132 (b := 7) (as := [.int 3, .int a1, .int a2, .int a3, .int 0, .int 0]) (S := []) sh_7 rfl rfl rfl (Nat.le_of_ble_eq_true rfl) (Ct_mono h ?_)
        rintro _ s7 ⟨v8, rfl, h⟩
        show X κ 36 [(0, .ref 7), (1, .int a1), (2, .int a2), (3, .int a3)] [.int v8] s7
        refine X_goto C dX7_mats_36 (tgt := 41) (by decide) ?_
        exact X_iret C Z rfl dX7_mats_41 h
set_option maxHeartbeats 4000000 in
set_option maxRecDepth 100000 in
theorem eX7_forget {d : Nat} {Q : Option Value → xSt → Prop} (st : xSt) (h : Q (some (.int (st.1 7 6))) (xup st 7 6 0)) : Ct (d) M_X7_forget [.ref 7] st Q := by
  refine Ct_of (by decide +kernel) (Nat.le_of_ble_eq_true rfl) (fun κ C Z => ?_)
  show X κ 0 [(0, .ref 7)] [] st
  refine X_aload_n C dX7_forget_0 rfl (j := 0) rfl ?_
  refine X_getI C sh_7 rfl fw_RX7_126 dX7_forget_1 ?_
  refine X_istore_n C dX7_forget_4 rfl (by decide) (L' := [(1, .int (st.1 7 6)), (0, .ref 7)]) rfl ?_
  refine X_aload_n C dX7_forget_5 rfl (j := 1) rfl ?_
  refine X_iconst C (v := 0) (by decide) dX7_forget_6 ?_
  refine X_putI C sh_7 rfl fp_RX7_126 dX7_forget_7 ?_
  refine X_iload_n C dX7_forget_10 rfl (j := 0) rfl ?_
  exact X_iret C Z rfl dX7_forget_11 h
set_option maxHeartbeats 4000000 in
set_option maxRecDepth 100000 in
theorem eX7_holds {d : Nat} {Q : Option Value → xSt → Prop} (a1 : Int32) (st : xSt) (h : vp_in ((6 * a1) + 1) 48 ∧ vp_in (st.1 32 ((6 * a1) + 1 : Int32).toNatClampNeg) 3 ∧ vp_in (6 * a1) 48 ∧ (((st.1 32 (6 * a1 : Int32).toNatClampNeg : Int32).toInt < 0 ∨ 2 < (st.1 32 (6 * a1 : Int32).toNatClampNeg : Int32).toInt → vp_in ((6 * a1) + 2) 48 ∧ vp_in ((6 * a1) + 3) 48 ∧ Ct d M_X7_in [.int (st.1 33 (st.1 32 ((6 * a1) + 1 : Int32).toNatClampNeg : Int32).toNatClampNeg), .int (st.1 32 ((6 * a1) + 2 : Int32).toNatClampNeg), .int (st.1 32 ((6 * a1) + 3 : Int32).toNatClampNeg)] st (Qi fun v7 s6 => (v7 = 0 ∨ v7 = 1) ∧ Q (some (.int v7)) s6)) ∧ ((st.1 32 (6 * a1 : Int32).toNatClampNeg : Int32).toInt = 0 → vp_in ((6 * a1) + 2) 48 ∧ vp_in ((6 * a1) + 3) 48 ∧ vp_in ((6 * a1) + 4) 48 ∧ vp_in ((6 * a1) + 5) 48 ∧ Ct d M_X7_mayMean [.ref 7, .int (st.1 32 ((6 * a1) + 2 : Int32).toNatClampNeg), .int (st.1 32 ((6 * a1) + 3 : Int32).toNatClampNeg), .int (st.1 32 ((6 * a1) + 4 : Int32).toNatClampNeg), .int (st.1 32 ((6 * a1) + 5 : Int32).toNatClampNeg), .int (st.1 33 (st.1 32 ((6 * a1) + 1 : Int32).toNatClampNeg : Int32).toNatClampNeg)] st (Qi fun v13 s12 => (v13 = 0 ∨ v13 = 1) ∧ Q (some (.int v13)) s12)) ∧ ((st.1 32 (6 * a1 : Int32).toNatClampNeg : Int32).toInt = 1 → vp_in ((6 * a1) + 2) 48 ∧ vp_in (st.1 32 ((6 * a1) + 2 : Int32).toNatClampNeg) 3 ∧ vp_in ((6 * a1) + 3) 48 ∧ vp_in (st.1 32 ((6 * a1) + 3 : Int32).toNatClampNeg) 3 ∧ ((¬ ((st.1 33 (st.1 32 ((6 * a1) + 1 : Int32).toNatClampNeg : Int32).toNatClampNeg) + (st.1 33 (st.1 32 ((6 * a1) + 2 : Int32).toNatClampNeg : Int32).toNatClampNeg)) = (st.1 33 (st.1 32 ((6 * a1) + 3 : Int32).toNatClampNeg : Int32).toNatClampNeg) → Q (some (.int 0)) st) ∧ (((st.1 33 (st.1 32 ((6 * a1) + 1 : Int32).toNatClampNeg : Int32).toNatClampNeg) + (st.1 33 (st.1 32 ((6 * a1) + 2 : Int32).toNatClampNeg : Int32).toNatClampNeg)) = (st.1 33 (st.1 32 ((6 * a1) + 3 : Int32).toNatClampNeg : Int32).toNatClampNeg) → Q (some (.int 1)) st))) ∧ ((st.1 32 (6 * a1 : Int32).toNatClampNeg : Int32).toInt = 2 → vp_in ((6 * a1) + 2) 48 ∧ vp_in (st.1 32 ((6 * a1) + 2 : Int32).toNatClampNeg) 3 ∧ (((st.1 33 (st.1 32 ((6 * a1) + 2 : Int32).toNatClampNeg : Int32).toNatClampNeg) ≤ (st.1 33 (st.1 32 ((6 * a1) + 1 : Int32).toNatClampNeg : Int32).toNatClampNeg) → Q (some (.int 0)) st) ∧ (¬ (st.1 33 (st.1 32 ((6 * a1) + 2 : Int32).toNatClampNeg : Int32).toNatClampNeg) ≤ (st.1 33 (st.1 32 ((6 * a1) + 1 : Int32).toNatClampNeg : Int32).toNatClampNeg) → Q (some (.int 1)) st))))) : Ct (d + 1) M_X7_holds [.ref 7, .int a1] st Q := by
  refine Ct_of (by decide +kernel) (Nat.le_of_ble_eq_true rfl) (fun κ C Z => ?_)
  show X κ 0 [(0, .ref 7), (1, .int a1)] [] st
  refine X_bipush C (v := 6) (by decide) dX7_holds_0 ?_
  refine X_iload_n C dX7_holds_2 rfl (j := 1) rfl ?_
  refine X_imul C dX7_holds_3 ?_
  refine X_istore_n C dX7_holds_4 rfl (by decide) (L' := [(2, .int (6 * a1)), (0, .ref 7), (1, .int a1)]) rfl ?_
  refine X_aload_n C dX7_holds_5 rfl (j := 1) rfl ?_
  refine X_getR C sh_7 rfl fw_RX7_30 dX7_holds_6 ?_
  refine X_aload_n C dX7_holds_9 rfl (j := 1) rfl ?_
  refine X_getR C sh_7 rfl fw_RX7_27 dX7_holds_10 ?_
  refine X_iload_n C dX7_holds_13 rfl (j := 0) rfl ?_
  refine X_iconst C (v := 1) (by decide) dX7_holds_14 ?_
  refine X_iadd C dX7_holds_15 ?_
  obtain ⟨g1, h⟩ := h
  refine X_iald C sh_32 g1 dX7_holds_16 ?_
  obtain ⟨g2, h⟩ := h
  refine X_iald C sh_33 g2 dX7_holds_17 ?_
  refine X_istore_n C dX7_holds_18 rfl (by decide) (L' := [(3, .int (st.1 33 (st.1 32 ((6 * a1) + 1 : Int32).toNatClampNeg : Int32).toNatClampNeg)), (2, .int (6 * a1)), (0, .ref 7), (1, .int a1)]) rfl ?_
  refine X_aload_n C dX7_holds_19 rfl (j := 2) rfl ?_
  refine X_getR C sh_7 rfl fw_RX7_27 dX7_holds_20 ?_
  refine X_iload_n C dX7_holds_23 rfl (j := 1) rfl ?_
  obtain ⟨g3, h⟩ := h
  refine X_iald C sh_32 g3 dX7_holds_24 ?_
  have hc : ((st.1 32 (6 * a1 : Int32).toNatClampNeg : Int32).toInt < 0 ∨ 2 < (st.1 32 (6 * a1 : Int32).toNatClampNeg : Int32).toInt) ∨ (st.1 32 (6 * a1 : Int32).toNatClampNeg : Int32).toInt = 0 ∨ (st.1 32 (6 * a1 : Int32).toNatClampNeg : Int32).toInt = 1 ∨ (st.1 32 (6 * a1 : Int32).toNatClampNeg : Int32).toInt = 2 := by omega
  rcases hc with c | c | c | c
  · replace h := h.1 c
    refine X_tableOut C dX7_holds_25 c (tgt := 150) (by decide) ?_
    refine X_iload_n C dX7_holds_150 rfl (j := 0) rfl ?_
    refine X_aload_n C dX7_holds_151 rfl (j := 2) rfl ?_
    refine X_getR C sh_7 rfl fw_RX7_27 dX7_holds_152 ?_
    refine X_iload_n C dX7_holds_155 rfl (j := 1) rfl ?_
    refine X_iconst C (v := 2) (by decide) dX7_holds_156 ?_
    refine X_iadd C dX7_holds_157 ?_
    obtain ⟨g4, h⟩ := h
    refine X_iald C sh_32 g4 dX7_holds_158 ?_
    refine X_aload_n C dX7_holds_159 rfl (j := 2) rfl ?_
    refine X_getR C sh_7 rfl fw_RX7_27 dX7_holds_160 ?_
    refine X_iload_n C dX7_holds_163 rfl (j := 1) rfl ?_
    refine X_iconst C (v := 3) (by decide) dX7_holds_164 ?_
    refine X_iadd C dX7_holds_165 ?_
    obtain ⟨g5, h⟩ := h
    refine X_iald C sh_32 g5 dX7_holds_166 ?_
    refine X_callS C dX7_holds_167 pw_RX7_75 (as := [.int (st.1 33 (st.1 32 ((6 * a1) + 1 : Int32).toNatClampNeg : Int32).toNatClampNeg), .int (st.1 32 ((6 * a1) + 2 : Int32).toNatClampNeg), .int (st.1 32 ((6 * a1) + 3 : Int32).toNatClampNeg)]) (S := []) rfl rfl (Nat.le_of_ble_eq_true rfl) (Ct_mono h ?_)
    rintro _ s6 ⟨v7, rfl, h⟩
    show X κ 170 [(3, .int (st.1 33 (st.1 32 ((6 * a1) + 1 : Int32).toNatClampNeg : Int32).toNatClampNeg)), (2, .int (6 * a1)), (0, .ref 7), (1, .int a1)] [.int v7] s6
    exact X_zret C Z rfl h.1 dX7_holds_170 h.2
  · replace h := h.2.1 c
    refine X_tableIn C dX7_holds_25 (by omega) (by omega) (off := 27) (by rw [c]; rfl) (tgt := 52) (by decide) ?_
    refine X_aload_n C dX7_holds_52 rfl (j := 2) rfl ?_
    refine X_aload_n C dX7_holds_53 rfl (j := 2) rfl ?_
    refine X_getR C sh_7 rfl fw_RX7_27 dX7_holds_54 ?_
    refine X_iload_n C dX7_holds_57 rfl (j := 1) rfl ?_
    refine X_iconst C (v := 2) (by decide) dX7_holds_58 ?_
    refine X_iadd C dX7_holds_59 ?_
    obtain ⟨g8, h⟩ := h
    refine X_iald C sh_32 g8 dX7_holds_60 ?_
    refine X_aload_n C dX7_holds_61 rfl (j := 2) rfl ?_
    refine X_getR C sh_7 rfl fw_RX7_27 dX7_holds_62 ?_
    refine X_iload_n C dX7_holds_65 rfl (j := 1) rfl ?_
    refine X_iconst C (v := 3) (by decide) dX7_holds_66 ?_
    refine X_iadd C dX7_holds_67 ?_
    obtain ⟨g9, h⟩ := h
    refine X_iald C sh_32 g9 dX7_holds_68 ?_
    refine X_aload_n C dX7_holds_69 rfl (j := 2) rfl ?_
    refine X_getR C sh_7 rfl fw_RX7_27 dX7_holds_70 ?_
    refine X_iload_n C dX7_holds_73 rfl (j := 1) rfl ?_
    refine X_iconst C (v := 4) (by decide) dX7_holds_74 ?_
    refine X_iadd C dX7_holds_75 ?_
    obtain ⟨g10, h⟩ := h
    refine X_iald C sh_32 g10 dX7_holds_76 ?_
    refine X_aload_n C dX7_holds_77 rfl (j := 2) rfl ?_
    refine X_getR C sh_7 rfl fw_RX7_27 dX7_holds_78 ?_
    refine X_iload_n C dX7_holds_81 rfl (j := 1) rfl ?_
    refine X_iconst C (v := 5) (by decide) dX7_holds_82 ?_
    refine X_iadd C dX7_holds_83 ?_
    obtain ⟨g11, h⟩ := h
    refine X_iald C sh_32 g11 dX7_holds_84 ?_
    refine X_iload_n C dX7_holds_85 rfl (j := 0) rfl ?_
    refine X_callV C dX7_holds_86 pw_RX7_122 (b := 7) (as := [.int (st.1 32 ((6 * a1) + 2 : Int32).toNatClampNeg), .int (st.1 32 ((6 * a1) + 3 : Int32).toNatClampNeg), .int (st.1 32 ((6 * a1) + 4 : Int32).toNatClampNeg), .int (st.1 32 ((6 * a1) + 5 : Int32).toNatClampNeg), .int (st.1 33 (st.1 32 ((6 * a1) + 1 : Int32).toNatClampNeg : Int32).toNatClampNeg)]) (S := []) sh_7 rfl rfl rfl (Nat.le_of_ble_eq_true rfl) (Ct_mono h ?_)
    rintro _ s12 ⟨v13, rfl, h⟩
    show X κ 89 [(3, .int (st.1 33 (st.1 32 ((6 * a1) + 1 : Int32).toNatClampNeg : Int32).toNatClampNeg)), (2, .int (6 * a1)), (0, .ref 7), (1, .int a1)] [.int v13] s12
    exact X_zret C Z rfl h.1 dX7_holds_89 h.2
  · replace h := h.2.2.1 c
    refine X_tableIn C dX7_holds_25 (by omega) (by omega) (off := 65) (by rw [c]; rfl) (tgt := 90) (by decide) ?_
    refine X_iload_n C dX7_holds_90 rfl (j := 0) rfl ?_
    refine X_aload_n C dX7_holds_91 rfl (j := 2) rfl ?_
    refine X_getR C sh_7 rfl fw_RX7_30 dX7_holds_92 ?_
    refine X_aload_n C dX7_holds_95 rfl (j := 2) rfl ?_
    refine X_getR C sh_7 rfl fw_RX7_27 dX7_holds_96 ?_
    refine X_iload_n C dX7_holds_99 rfl (j := 1) rfl ?_
    refine X_iconst C (v := 2) (by decide) dX7_holds_100 ?_
    refine X_iadd C dX7_holds_101 ?_
    obtain ⟨g14, h⟩ := h
    refine X_iald C sh_32 g14 dX7_holds_102 ?_
    obtain ⟨g15, h⟩ := h
    refine X_iald C sh_33 g15 dX7_holds_103 ?_
    refine X_iadd C dX7_holds_104 ?_
    refine X_aload_n C dX7_holds_105 rfl (j := 2) rfl ?_
    refine X_getR C sh_7 rfl fw_RX7_30 dX7_holds_106 ?_
    refine X_aload_n C dX7_holds_109 rfl (j := 2) rfl ?_
    refine X_getR C sh_7 rfl fw_RX7_27 dX7_holds_110 ?_
    refine X_iload_n C dX7_holds_113 rfl (j := 1) rfl ?_
    refine X_iconst C (v := 3) (by decide) dX7_holds_114 ?_
    refine X_iadd C dX7_holds_115 ?_
    obtain ⟨g16, h⟩ := h
    refine X_iald C sh_32 g16 dX7_holds_116 ?_
    obtain ⟨g17, h⟩ := h
    refine X_iald C sh_33 g17 dX7_holds_117 ?_
    refine X_icmp_ne C dX7_holds_118 (tgt := 125) (by decide) (fun c => ?_) (fun c => ?_)
    · replace h := h.1 c
      refine X_iconst C (v := 0) (by decide) dX7_holds_125 ?_
      exact X_zret C Z rfl (by decide) dX7_holds_126 h
    · replace h := h.2 c
      refine X_iconst C (v := 1) (by decide) dX7_holds_121 ?_
      refine X_goto C dX7_holds_122 (tgt := 126) (by decide) ?_
      exact X_zret C Z rfl (by decide) dX7_holds_126 h
  · replace h := h.2.2.2 c
    refine X_tableIn C dX7_holds_25 (by omega) (by omega) (off := 102) (by rw [c]; rfl) (tgt := 127) (by decide) ?_
    refine X_iload_n C dX7_holds_127 rfl (j := 0) rfl ?_
    refine X_aload_n C dX7_holds_128 rfl (j := 2) rfl ?_
    refine X_getR C sh_7 rfl fw_RX7_30 dX7_holds_129 ?_
    refine X_aload_n C dX7_holds_132 rfl (j := 2) rfl ?_
    refine X_getR C sh_7 rfl fw_RX7_27 dX7_holds_133 ?_
    refine X_iload_n C dX7_holds_136 rfl (j := 1) rfl ?_
    refine X_iconst C (v := 2) (by decide) dX7_holds_137 ?_
    refine X_iadd C dX7_holds_138 ?_
    obtain ⟨g18, h⟩ := h
    refine X_iald C sh_32 g18 dX7_holds_139 ?_
    obtain ⟨g19, h⟩ := h
    refine X_iald C sh_33 g19 dX7_holds_140 ?_
    refine X_icmp_ge C dX7_holds_141 (tgt := 148) (by decide) (fun c => ?_) (fun c => ?_)
    · replace h := h.1 c
      refine X_iconst C (v := 0) (by decide) dX7_holds_148 ?_
      exact X_zret C Z rfl (by decide) dX7_holds_149 h
    · replace h := h.2 c
      refine X_iconst C (v := 1) (by decide) dX7_holds_144 ?_
      refine X_goto C dX7_holds_145 (tgt := 149) (by decide) ?_
      exact X_zret C Z rfl (by decide) dX7_holds_149 h
set_option maxHeartbeats 4000000 in
set_option maxRecDepth 100000 in
theorem bX7_holding_4 {κ : xK} {d : Nat} {Q : Option Value → xSt → Prop} (C : Cx κ M_X7_holding (d + 1)) (Z : xR κ Q) (x1 : Int32) (x2 : Int32) (st : xSt) (h : (((st.1 7 6) ≤ x2 → Q (some (.int x1)) st) ∧ (¬ (st.1 7 6) ≤ x2 → Ct d M_X7_holds [.ref 7, .int x2] st (Qi fun v2 s1 => ((v2 = 0 → X κ 4 [(0, .ref 7), (1, .int (x1 ||| 0)), (2, .int (x2 + 1))] [] s1) ∧ (¬ v2 = 0 → X κ 4 [(0, .ref 7), (1, .int (x1 ||| ((1 : Int32) <<< ((x2 : Int32) &&& 31)))), (2, .int (x2 + 1))] [] s1)))))) : X κ 4 [(0, .ref 7), (1, .int x1), (2, .int x2)] [] st := by
  refine X_iload_n C dX7_holding_4 rfl (j := 2) rfl ?_
  refine X_aload_n C dX7_holding_5 rfl (j := 0) rfl ?_
  refine X_getI C sh_7 rfl fw_RX7_126 dX7_holding_6 ?_
  refine X_icmp_ge C dX7_holding_9 (tgt := 36) (by decide) (fun c => ?_) (fun c => ?_)
  · replace h := h.1 c
    refine X_iload_n C dX7_holding_36 rfl (j := 1) rfl ?_
    exact X_iret C Z rfl dX7_holding_37 h
  · replace h := h.2 c
    refine X_iload_n C dX7_holding_12 rfl (j := 1) rfl ?_
    refine X_aload_n C dX7_holding_13 rfl (j := 0) rfl ?_
    refine X_iload_n C dX7_holding_14 rfl (j := 2) rfl ?_
    refine X_callV C dX7_holding_15 pw_RX7_136 (b := 7) (as := [.int x2]) (S := [.int x1]) sh_7 rfl rfl rfl (Nat.le_of_ble_eq_true rfl) (Ct_mono h ?_)
    rintro _ s1 ⟨v2, rfl, h⟩
    show X κ 18 [(0, .ref 7), (1, .int x1), (2, .int x2)] [.int v2, .int x1] s1
    refine X_if_eq C dX7_holding_18 (tgt := 27) (by decide) (fun c => ?_) (fun c => ?_)
    · replace h := h.1 c
      refine X_iconst C (v := 0) (by decide) dX7_holding_27 ?_
      refine X_ior C dX7_holding_28 ?_
      refine X_istore_n C dX7_holding_29 rfl (by decide) (L' := [(1, .int (x1 ||| 0)), (0, .ref 7), (2, .int x2)]) rfl ?_
      refine X_iinc C dX7_holding_30 (j := 2) rfl (v := x2 + 1) rfl (by decide) (L' := [(2, .int (x2 + 1)), (1, .int (x1 ||| 0)), (0, .ref 7)]) rfl ?_
      refine X_goto C dX7_holding_33 (tgt := 4) (by decide) ?_
      refine X_loc [2, 1, 0] rfl ?_
      exact h
    · replace h := h.2 c
      refine X_iconst C (v := 1) (by decide) dX7_holding_21 ?_
      refine X_iload_n C dX7_holding_22 rfl (j := 2) rfl ?_
      refine X_ishl C dX7_holding_23 ?_
      refine X_goto C dX7_holding_24 (tgt := 28) (by decide) ?_
      refine X_ior C dX7_holding_28 ?_
      refine X_istore_n C dX7_holding_29 rfl (by decide) (L' := [(1, .int (x1 ||| ((1 : Int32) <<< ((x2 : Int32) &&& 31)))), (0, .ref 7), (2, .int x2)]) rfl ?_
      refine X_iinc C dX7_holding_30 (j := 2) rfl (v := x2 + 1) rfl (by decide) (L' := [(2, .int (x2 + 1)), (1, .int (x1 ||| ((1 : Int32) <<< ((x2 : Int32) &&& 31)))), (0, .ref 7)]) rfl ?_
      refine X_goto C dX7_holding_33 (tgt := 4) (by decide) ?_
      refine X_loc [2, 1, 0] rfl ?_
      exact h
set_option maxHeartbeats 4000000 in
set_option maxRecDepth 100000 in
theorem eX7_holding {d : Nat} {Q : Option Value → xSt → Prop} (st : xSt) (h : ∀ κ : xK, Cx κ M_X7_holding (d + 1) → xR κ Q → X κ 4 [(0, .ref 7), (1, .int 0), (2, .int 0)] [] st) : Ct (d + 1) M_X7_holding [.ref 7] st Q := by
  refine Ct_of (by decide +kernel) (Nat.le_of_ble_eq_true rfl) (fun κ C Z => ?_)
  replace h := h κ C Z
  show X κ 0 [(0, .ref 7)] [] st
  refine X_iconst C (v := 0) (by decide) dX7_holding_0 ?_
  refine X_istore_n C dX7_holding_1 rfl (by decide) (L' := [(1, .int 0), (0, .ref 7)]) rfl ?_
  refine X_iconst C (v := 0) (by decide) dX7_holding_2 ?_
  refine X_istore_n C dX7_holding_3 rfl (by decide) (L' := [(2, .int 0), (1, .int 0), (0, .ref 7)]) rfl ?_
  refine X_loc [2, 1, 0] rfl ?_
  exact h
set_option maxHeartbeats 4000000 in
set_option maxRecDepth 100000 in
theorem eX7_tryOut {d : Nat} {Q : Option Value → xSt → Prop} (a1 : Int32) (st : xSt) (h : ¬ (st.1 7 5) = 0 ∧ ¬ (st.1 7 5) = 0 ∧ ¬ ((xup st 33 (0 : Int32).toNatClampNeg (1 + ((a1 / (st.1 7 5)) / (st.1 7 5)))).1 7 5) = 0 ∧ ¬ ((xup st 33 (0 : Int32).toNatClampNeg (1 + ((a1 / (st.1 7 5)) / (st.1 7 5)))).1 7 5) = 0 ∧ ¬ ((xup (xup st 33 (0 : Int32).toNatClampNeg (1 + ((a1 / (st.1 7 5)) / (st.1 7 5)))) 33 (1 : Int32).toNatClampNeg (1 + ((a1 / ((xup st 33 (0 : Int32).toNatClampNeg (1 + ((a1 / (st.1 7 5)) / (st.1 7 5)))).1 7 5)) - (a1 / ((xup st 33 (0 : Int32).toNatClampNeg (1 + ((a1 / (st.1 7 5)) / (st.1 7 5)))).1 7 5)) / ((xup st 33 (0 : Int32).toNatClampNeg (1 + ((a1 / (st.1 7 5)) / (st.1 7 5)))).1 7 5) * ((xup st 33 (0 : Int32).toNatClampNeg (1 + ((a1 / (st.1 7 5)) / (st.1 7 5)))).1 7 5)))).1 7 5) = 0 ∧ Q none (xup (xup (xup st 33 (0 : Int32).toNatClampNeg (1 + ((a1 / (st.1 7 5)) / (st.1 7 5)))) 33 (1 : Int32).toNatClampNeg (1 + ((a1 / ((xup st 33 (0 : Int32).toNatClampNeg (1 + ((a1 / (st.1 7 5)) / (st.1 7 5)))).1 7 5)) - (a1 / ((xup st 33 (0 : Int32).toNatClampNeg (1 + ((a1 / (st.1 7 5)) / (st.1 7 5)))).1 7 5)) / ((xup st 33 (0 : Int32).toNatClampNeg (1 + ((a1 / (st.1 7 5)) / (st.1 7 5)))).1 7 5) * ((xup st 33 (0 : Int32).toNatClampNeg (1 + ((a1 / (st.1 7 5)) / (st.1 7 5)))).1 7 5)))) 33 (2 : Int32).toNatClampNeg (1 + (a1 - a1 / ((xup (xup st 33 (0 : Int32).toNatClampNeg (1 + ((a1 / (st.1 7 5)) / (st.1 7 5)))) 33 (1 : Int32).toNatClampNeg (1 + ((a1 / ((xup st 33 (0 : Int32).toNatClampNeg (1 + ((a1 / (st.1 7 5)) / (st.1 7 5)))).1 7 5)) - (a1 / ((xup st 33 (0 : Int32).toNatClampNeg (1 + ((a1 / (st.1 7 5)) / (st.1 7 5)))).1 7 5)) / ((xup st 33 (0 : Int32).toNatClampNeg (1 + ((a1 / (st.1 7 5)) / (st.1 7 5)))).1 7 5) * ((xup st 33 (0 : Int32).toNatClampNeg (1 + ((a1 / (st.1 7 5)) / (st.1 7 5)))).1 7 5)))).1 7 5) * ((xup (xup st 33 (0 : Int32).toNatClampNeg (1 + ((a1 / (st.1 7 5)) / (st.1 7 5)))) 33 (1 : Int32).toNatClampNeg (1 + ((a1 / ((xup st 33 (0 : Int32).toNatClampNeg (1 + ((a1 / (st.1 7 5)) / (st.1 7 5)))).1 7 5)) - (a1 / ((xup st 33 (0 : Int32).toNatClampNeg (1 + ((a1 / (st.1 7 5)) / (st.1 7 5)))).1 7 5)) / ((xup st 33 (0 : Int32).toNatClampNeg (1 + ((a1 / (st.1 7 5)) / (st.1 7 5)))).1 7 5) * ((xup st 33 (0 : Int32).toNatClampNeg (1 + ((a1 / (st.1 7 5)) / (st.1 7 5)))).1 7 5)))).1 7 5))))) : Ct (d) M_X7_tryOut [.ref 7, .int a1] st Q := by
  refine Ct_of (by decide +kernel) (Nat.le_of_ble_eq_true rfl) (fun κ C Z => ?_)
  show X κ 0 [(0, .ref 7), (1, .int a1)] [] st
  refine X_aload_n C dX7_tryOut_0 rfl (j := 0) rfl ?_
  refine X_getR C sh_7 rfl fw_RX7_30 dX7_tryOut_1 ?_
  refine X_iconst C (v := 0) (by decide) dX7_tryOut_4 ?_
  refine X_iconst C (v := 1) (by decide) dX7_tryOut_5 ?_
  refine X_iload_n C dX7_tryOut_6 rfl (j := 1) rfl ?_
  refine X_aload_n C dX7_tryOut_7 rfl (j := 0) rfl ?_
  refine X_getI C sh_7 rfl fw_RX7_23 dX7_tryOut_8 ?_
  obtain ⟨g, h⟩ := h
  refine X_idiv C g dX7_tryOut_11 ?_
  refine X_aload_n C dX7_tryOut_12 rfl (j := 0) rfl ?_
  refine X_getI C sh_7 rfl fw_RX7_23 dX7_tryOut_13 ?_
  obtain ⟨g, h⟩ := h
  refine X_idiv C g dX7_tryOut_16 ?_
  refine X_iadd C dX7_tryOut_17 ?_
  refine X_iast C sh_33 (by unfold vp_in; decide) dX7_tryOut_18 ?_
  refine X_aload_n C dX7_tryOut_19 rfl (j := 0) rfl ?_
  refine X_getR C sh_7 rfl fw_RX7_30 dX7_tryOut_20 ?_
  refine X_iconst C (v := 1) (by decide) dX7_tryOut_23 ?_
  refine X_iconst C (v := 1) (by decide) dX7_tryOut_24 ?_
  refine X_iload_n C dX7_tryOut_25 rfl (j := 1) rfl ?_
  refine X_aload_n C dX7_tryOut_26 rfl (j := 0) rfl ?_
  refine X_getI C sh_7 rfl fw_RX7_23 dX7_tryOut_27 ?_
  obtain ⟨g, h⟩ := h
  refine X_idiv C g dX7_tryOut_30 ?_
  refine X_aload_n C dX7_tryOut_31 rfl (j := 0) rfl ?_
  refine X_getI C sh_7 rfl fw_RX7_23 dX7_tryOut_32 ?_
  obtain ⟨g, h⟩ := h
  refine X_irem C g dX7_tryOut_35 ?_
  refine X_iadd C dX7_tryOut_36 ?_
  refine X_iast C sh_33 (by unfold vp_in; decide) dX7_tryOut_37 ?_
  refine X_aload_n C dX7_tryOut_38 rfl (j := 0) rfl ?_
  refine X_getR C sh_7 rfl fw_RX7_30 dX7_tryOut_39 ?_
  refine X_iconst C (v := 2) (by decide) dX7_tryOut_42 ?_
  refine X_iconst C (v := 1) (by decide) dX7_tryOut_43 ?_
  refine X_iload_n C dX7_tryOut_44 rfl (j := 1) rfl ?_
  refine X_aload_n C dX7_tryOut_45 rfl (j := 0) rfl ?_
  refine X_getI C sh_7 rfl fw_RX7_23 dX7_tryOut_46 ?_
  obtain ⟨g, h⟩ := h
  refine X_irem C g dX7_tryOut_49 ?_
  refine X_iadd C dX7_tryOut_50 ?_
  refine X_iast C sh_33 (by unfold vp_in; decide) dX7_tryOut_51 ?_
  exact X_vret C Z rfl dX7_tryOut_52 h
set_option maxHeartbeats 4000000 in
set_option maxRecDepth 100000 in
theorem bX7_solutionsNow_4 {κ : xK} {d : Nat} {Q : Option Value → xSt → Prop} (C : Cx κ M_X7_solutionsNow (d + 1)) (Z : xR κ Q) (x1 : Int32) (x2 : Int32) (st : xSt) (h : (((((st.1 7 5) * (st.1 7 5)) * (st.1 7 5)) ≤ x2 → Q (some (.int x1)) st) ∧ (¬ (((st.1 7 5) * (st.1 7 5)) * (st.1 7 5)) ≤ x2 → Ct d M_X7_tryOut [.ref 7, .int x2] st (Qv fun s1 => Ct d M_X7_holding [.ref 7] s1 (Qi fun v3 s2 => ((¬ v3 = (((1 : Int32) <<< ((s2.1 7 6 : Int32) &&& 31)) - 1) → X κ 4 [(0, .ref 7), (1, .int (x1 + 0)), (2, .int (x2 + 1))] [] s2) ∧ (v3 = (((1 : Int32) <<< ((s2.1 7 6 : Int32) &&& 31)) - 1) → X κ 4 [(0, .ref 7), (1, .int (x1 + 1)), (2, .int (x2 + 1))] [] s2))))))) : X κ 4 [(0, .ref 7), (1, .int x1), (2, .int x2)] [] st := by
  refine X_iload_n C dX7_solutionsNow_4 rfl (j := 2) rfl ?_
  refine X_aload_n C dX7_solutionsNow_5 rfl (j := 0) rfl ?_
  refine X_getI C sh_7 rfl fw_RX7_23 dX7_solutionsNow_6 ?_
  refine X_aload_n C dX7_solutionsNow_9 rfl (j := 0) rfl ?_
  refine X_getI C sh_7 rfl fw_RX7_23 dX7_solutionsNow_10 ?_
  refine X_imul C dX7_solutionsNow_13 ?_
  refine X_aload_n C dX7_solutionsNow_14 rfl (j := 0) rfl ?_
  refine X_getI C sh_7 rfl fw_RX7_23 dX7_solutionsNow_15 ?_
  refine X_imul C dX7_solutionsNow_18 ?_
  refine X_icmp_ge C dX7_solutionsNow_19 (tgt := 56) (by decide) (fun c => ?_) (fun c => ?_)
  · replace h := h.1 c
    refine X_iload_n C dX7_solutionsNow_56 rfl (j := 1) rfl ?_
    exact X_iret C Z rfl dX7_solutionsNow_57 h
  · replace h := h.2 c
    refine X_aload_n C dX7_solutionsNow_22 rfl (j := 0) rfl ?_
    refine X_iload_n C dX7_solutionsNow_23 rfl (j := 2) rfl ?_
    refine X_callV C dX7_solutionsNow_24 pw_RX7_139 (b := 7) (as := [.int x2]) (S := []) sh_7 rfl rfl rfl (Nat.le_of_ble_eq_true rfl) (Ct_mono h ?_)
    rintro _ s1 ⟨rfl, h⟩
    show X κ 27 [(0, .ref 7), (1, .int x1), (2, .int x2)] [] s1
    refine X_iload_n C dX7_solutionsNow_27 rfl (j := 1) rfl ?_
    refine X_aload_n C dX7_solutionsNow_28 rfl (j := 0) rfl ?_
    refine X_callV C dX7_solutionsNow_29 pw_RX7_143 (b := 7) (as := []) (S := [.int x1]) sh_7 rfl rfl rfl (Nat.le_of_ble_eq_true rfl) (Ct_mono h ?_)
    rintro _ s2 ⟨v3, rfl, h⟩
    show X κ 32 [(0, .ref 7), (1, .int x1), (2, .int x2)] [.int v3, .int x1] s2
    refine X_iconst C (v := 1) (by decide) dX7_solutionsNow_32 ?_
    refine X_aload_n C dX7_solutionsNow_33 rfl (j := 0) rfl ?_
    refine X_getI C sh_7 rfl fw_RX7_126 dX7_solutionsNow_34 ?_
    refine X_ishl C dX7_solutionsNow_37 ?_
    refine X_iconst C (v := 1) (by decide) dX7_solutionsNow_38 ?_
    refine X_isub C dX7_solutionsNow_39 ?_
    refine X_icmp_ne C dX7_solutionsNow_40 (tgt := 47) (by decide) (fun c => ?_) (fun c => ?_)
    · replace h := h.1 c
      refine X_iconst C (v := 0) (by decide) dX7_solutionsNow_47 ?_
      refine X_iadd C dX7_solutionsNow_48 ?_
      refine X_istore_n C dX7_solutionsNow_49 rfl (by decide) (L' := [(1, .int (x1 + 0)), (0, .ref 7), (2, .int x2)]) rfl ?_
      refine X_iinc C dX7_solutionsNow_50 (j := 2) rfl (v := x2 + 1) rfl (by decide) (L' := [(2, .int (x2 + 1)), (1, .int (x1 + 0)), (0, .ref 7)]) rfl ?_
      refine X_goto C dX7_solutionsNow_53 (tgt := 4) (by decide) ?_
      refine X_loc [2, 1, 0] rfl ?_
      exact h
    · replace h := h.2 c
      refine X_iconst C (v := 1) (by decide) dX7_solutionsNow_43 ?_
      refine X_goto C dX7_solutionsNow_44 (tgt := 48) (by decide) ?_
      refine X_iadd C dX7_solutionsNow_48 ?_
      refine X_istore_n C dX7_solutionsNow_49 rfl (by decide) (L' := [(1, .int (x1 + 1)), (0, .ref 7), (2, .int x2)]) rfl ?_
      refine X_iinc C dX7_solutionsNow_50 (j := 2) rfl (v := x2 + 1) rfl (by decide) (L' := [(2, .int (x2 + 1)), (1, .int (x1 + 1)), (0, .ref 7)]) rfl ?_
      refine X_goto C dX7_solutionsNow_53 (tgt := 4) (by decide) ?_
      refine X_loc [2, 1, 0] rfl ?_
      exact h
set_option maxHeartbeats 4000000 in
set_option maxRecDepth 100000 in
theorem eX7_solutionsNow {d : Nat} {Q : Option Value → xSt → Prop} (st : xSt) (h : ∀ κ : xK, Cx κ M_X7_solutionsNow (d + 1) → xR κ Q → X κ 4 [(0, .ref 7), (1, .int 0), (2, .int 0)] [] st) : Ct (d + 1) M_X7_solutionsNow [.ref 7] st Q := by
  refine Ct_of (by decide +kernel) (Nat.le_of_ble_eq_true rfl) (fun κ C Z => ?_)
  replace h := h κ C Z
  show X κ 0 [(0, .ref 7)] [] st
  refine X_iconst C (v := 0) (by decide) dX7_solutionsNow_0 ?_
  refine X_istore_n C dX7_solutionsNow_1 rfl (by decide) (L' := [(1, .int 0), (0, .ref 7)]) rfl ?_
  refine X_iconst C (v := 0) (by decide) dX7_solutionsNow_2 ?_
  refine X_istore_n C dX7_solutionsNow_3 rfl (by decide) (L' := [(2, .int 0), (1, .int 0), (0, .ref 7)]) rfl ?_
  refine X_loc [2, 1, 0] rfl ?_
  exact h
set_option maxHeartbeats 4000000 in
set_option maxRecDepth 100000 in
theorem eX7_solutions {d : Nat} {Q : Option Value → xSt → Prop} (st : xSt) (h : Ct d M_X7_solutionsNow [.ref 7] st (Qi fun v2 s1 => Q (some (.int v2)) s1)) : Ct (d + 1) M_X7_solutions [.ref 7] st Q := by
  refine Ct_of (by decide +kernel) (Nat.le_of_ble_eq_true rfl) (fun κ C Z => ?_)
  show X κ 0 [(0, .ref 7)] [] st
  refine X_aload_n C dX7_solutions_0 rfl (j := 0) rfl ?_
  refine X_callV C dX7_solutions_1 pw_RX7_147 (b := 7) (as := []) (S := []) sh_7 rfl rfl rfl (Nat.le_of_ble_eq_true rfl) (Ct_mono h ?_)
  rintro _ s1 ⟨v2, rfl, h⟩
  show X κ 4 [(0, .ref 7)] [.int v2] s1
  exact X_iret C Z rfl dX7_solutions_4 h
set_option maxHeartbeats 4000000 in
set_option maxRecDepth 100000 in
theorem bX7_solution_19 {κ : xK} {d : Nat} {Q : Option Value → xSt → Prop} (C : Cx κ M_X7_solution (d + 1)) (Z : xR κ Q) (x2 : Int32) (x3 : Int32) (x4 : Int32) (st : xSt) (h : (((((st.1 7 5) * (st.1 7 5)) * (st.1 7 5)) ≤ x4 → Q (some (.int ((-1)))) st) ∧ (¬ (((st.1 7 5) * (st.1 7 5)) * (st.1 7 5)) ≤ x4 → Ct d M_X7_tryOut [.ref 7, .int x4] st (Qv fun s1 => Ct d M_X7_holding [.ref 7] s1 (Qi fun v3 s2 => ((¬ v3 = (((1 : Int32) <<< ((s2.1 7 6 : Int32) &&& 31)) - 1) → X κ 19 [(0, .ref 7), (2, .int x2), (3, .int x3), (4, .int (x4 + 1))] [] s2) ∧ (v3 = (((1 : Int32) <<< ((s2.1 7 6 : Int32) &&& 31)) - 1) → ((¬ x3 = 0 → X κ 19 [(0, .ref 7), (2, .int x2), (3, .int (x3 + (-1))), (4, .int (x4 + 1))] [] s2) ∧ (x3 = 0 → vp_in x2 3 ∧ Q (some (.int (s2.1 33 (x2 : Int32).toNatClampNeg))) s2))))))))) : X κ 19 [(0, .ref 7), (2, .int x2), (3, .int x3), (4, .int x4)] [] st := by
  refine X_iload C dX7_solution_19 (j := 3) rfl ?_
  refine X_aload_n C dX7_solution_21 rfl (j := 0) rfl ?_
  refine X_getI C sh_7 rfl fw_RX7_23 dX7_solution_22 ?_
  refine X_aload_n C dX7_solution_25 rfl (j := 0) rfl ?_
  refine X_getI C sh_7 rfl fw_RX7_23 dX7_solution_26 ?_
  refine X_imul C dX7_solution_29 ?_
  refine X_aload_n C dX7_solution_30 rfl (j := 0) rfl ?_
  refine X_getI C sh_7 rfl fw_RX7_23 dX7_solution_31 ?_
  refine X_imul C dX7_solution_34 ?_
  refine X_icmp_ge C dX7_solution_35 (tgt := 79) (by decide) (fun c => ?_) (fun c => ?_)
  · replace h := h.1 c
    refine X_iconst C (v := (-1)) (by decide) dX7_solution_79 ?_
    exact X_iret C Z rfl dX7_solution_80 h
  · replace h := h.2 c
    refine X_aload_n C dX7_solution_38 rfl (j := 0) rfl ?_
    refine X_iload C dX7_solution_39 (j := 3) rfl ?_
    refine X_callV C dX7_solution_41 pw_RX7_139 (b := 7) (as := [.int x4]) (S := []) sh_7 rfl rfl rfl (Nat.le_of_ble_eq_true rfl) (Ct_mono h ?_)
    rintro _ s1 ⟨rfl, h⟩
    show X κ 44 [(0, .ref 7), (2, .int x2), (3, .int x3), (4, .int x4)] [] s1
    refine X_aload_n C dX7_solution_44 rfl (j := 0) rfl ?_
    refine X_callV C dX7_solution_45 pw_RX7_143 (b := 7) (as := []) (S := []) sh_7 rfl rfl rfl (Nat.le_of_ble_eq_true rfl) (Ct_mono h ?_)
    rintro _ s2 ⟨v3, rfl, h⟩
    show X κ 48 [(0, .ref 7), (2, .int x2), (3, .int x3), (4, .int x4)] [.int v3] s2
    refine X_iconst C (v := 1) (by decide) dX7_solution_48 ?_
    refine X_aload_n C dX7_solution_49 rfl (j := 0) rfl ?_
    refine X_getI C sh_7 rfl fw_RX7_126 dX7_solution_50 ?_
    refine X_ishl C dX7_solution_53 ?_
    refine X_iconst C (v := 1) (by decide) dX7_solution_54 ?_
    refine X_isub C dX7_solution_55 ?_
    refine X_icmp_ne C dX7_solution_56 (tgt := 73) (by decide) (fun c => ?_) (fun c => ?_)
    · replace h := h.1 c
      refine X_iinc C dX7_solution_73 (j := 3) rfl (v := x4 + 1) rfl (by decide) (L' := [(4, .int (x4 + 1)), (0, .ref 7), (2, .int x2), (3, .int x3)]) rfl ?_
      refine X_goto C dX7_solution_76 (tgt := 19) (by decide) ?_
      refine X_loc [1, 2, 3, 0] rfl ?_
      exact h
    · replace h := h.2 c
      refine X_iload_n C dX7_solution_59 rfl (j := 2) rfl ?_
      refine X_if_ne C dX7_solution_60 (tgt := 70) (by decide) (fun c => ?_) (fun c => ?_)
      · replace h := h.1 c
        refine X_iinc C dX7_solution_70 (j := 2) rfl (v := x3 + (-1)) rfl (by decide) (L' := [(3, .int (x3 + (-1))), (0, .ref 7), (2, .int x2), (4, .int x4)]) rfl ?_
        refine X_iinc C dX7_solution_73 (j := 3) rfl (v := x4 + 1) rfl (by decide) (L' := [(4, .int (x4 + 1)), (3, .int (x3 + (-1))), (0, .ref 7), (2, .int x2)]) rfl ?_
        refine X_goto C dX7_solution_76 (tgt := 19) (by decide) ?_
        refine X_loc [2, 3, 1, 0] rfl ?_
        exact h
      · replace h := h.2 c
        refine X_aload_n C dX7_solution_63 rfl (j := 0) rfl ?_
        refine X_getR C sh_7 rfl fw_RX7_30 dX7_solution_64 ?_
        refine X_iload_n C dX7_solution_67 rfl (j := 1) rfl ?_
        obtain ⟨g4, h⟩ := h
        refine X_iald C sh_33 g4 dX7_solution_68 ?_
        exact X_iret C Z rfl dX7_solution_69 h
set_option maxHeartbeats 4000000 in
set_option maxRecDepth 100000 in
theorem eX7_solution {d : Nat} {Q : Option Value → xSt → Prop} (a1 : Int32) (a2 : Int32) (st : xSt) (h : ∀ κ : xK, Cx κ M_X7_solution (d + 1) → xR κ Q → ((a1 < 0 → Q (some (.int ((-2)))) st) ∧ (¬ a1 < 0 → Ct d M_X7_isUnknown [.int a2] st (Qi fun v2 s1 => ((¬ v2 = 0 → X κ 19 [(0, .ref 7), (2, .int a2), (3, .int a1), (4, .int 0)] [] s1) ∧ (v2 = 0 → Q (some (.int ((-2)))) s1)))))) : Ct (d + 1) M_X7_solution [.ref 7, .int a1, .int a2] st Q := by
  refine Ct_of (by decide +kernel) (Nat.le_of_ble_eq_true rfl) (fun κ C Z => ?_)
  replace h := h κ C Z
  show X κ 0 [(0, .ref 7), (1, .int a1), (2, .int a2)] [] st
  refine X_iload_n C dX7_solution_0 rfl (j := 1) rfl ?_
  refine X_if_lt C dX7_solution_1 (tgt := 11) (by decide) (fun c => ?_) (fun c => ?_)
  · replace h := h.1 c
    refine X_bipush C (v := (-2)) (by decide) dX7_solution_11 ?_
    exact X_iret C Z rfl dX7_solution_13 h
  · replace h := h.2 c
    refine X_iload_n C dX7_solution_4 rfl (j := 2) rfl ?_
    refine X_callS C dX7_solution_5 pw_RX7_129 (as := [.int a2]) (S := []) rfl rfl (Nat.le_of_ble_eq_true rfl) (Ct_mono h ?_)
    rintro _ s1 ⟨v2, rfl, h⟩
    show X κ 8 [(0, .ref 7), (1, .int a1), (2, .int a2)] [.int v2] s1
    refine X_if_ne C dX7_solution_8 (tgt := 14) (by decide) (fun c => ?_) (fun c => ?_)
    · replace h := h.1 c
      refine X_iload_n C dX7_solution_14 rfl (j := 1) rfl ?_
      refine X_istore_n C dX7_solution_15 rfl (by decide) (L' := [(3, .int a1), (0, .ref 7), (1, .int a1), (2, .int a2)]) rfl ?_
      refine X_iconst C (v := 0) (by decide) dX7_solution_16 ?_
      refine X_istore C dX7_solution_17 (by decide) (L' := [(4, .int 0), (3, .int a1), (0, .ref 7), (1, .int a1), (2, .int a2)]) rfl ?_
      refine X_loc [2, 4, 1, 0] rfl ?_
      exact h
    · replace h := h.2 c
      refine X_bipush C (v := (-2)) (by decide) dX7_solution_11 ?_
      exact X_iret C Z rfl dX7_solution_13 h
set_option maxHeartbeats 4000000 in
set_option maxRecDepth 100000 in
theorem bX7_sure_15 {κ : xK} {d : Nat} {Q : Option Value → xSt → Prop} (C : Cx κ M_X7_sure (d + 1)) (Z : xR κ Q) (x1 : Int32) (x2 : Int32) (x3 : Int32) (st : xSt) (h : (((((st.1 7 5) * (st.1 7 5)) * (st.1 7 5)) ≤ x3 → Q (some (.int x2)) st) ∧ (¬ (((st.1 7 5) * (st.1 7 5)) * (st.1 7 5)) ≤ x3 → Ct d M_X7_tryOut [.ref 7, .int x3] st (Qv fun s1 => Ct d M_X7_holding [.ref 7] s1 (Qi fun v3 s2 => ((¬ v3 = (((1 : Int32) <<< ((s2.1 7 6 : Int32) &&& 31)) - 1) → X κ 15 [(0, .ref 7), (1, .int x1), (2, .int x2), (3, .int (x3 + 1))] [] s2) ∧ (v3 = (((1 : Int32) <<< ((s2.1 7 6 : Int32) &&& 31)) - 1) → ((x2 = ((-3)) → vp_in x1 3 ∧ X κ 15 [(0, .ref 7), (1, .int x1), (2, .int (s2.1 33 (x1 : Int32).toNatClampNeg)), (3, .int (x3 + 1))] [] s2) ∧ (¬ x2 = ((-3)) → vp_in x1 3 ∧ ((¬ x2 = (s2.1 33 (x1 : Int32).toNatClampNeg) → X κ 15 [(0, .ref 7), (1, .int x1), (2, .int ((-1))), (3, .int (x3 + 1))] [] s2) ∧ (x2 = (s2.1 33 (x1 : Int32).toNatClampNeg) → vp_in x1 3 ∧ X κ 15 [(0, .ref 7), (1, .int x1), (2, .int (s2.1 33 (x1 : Int32).toNatClampNeg)), (3, .int (x3 + 1))] [] s2))))))))))) : X κ 15 [(0, .ref 7), (1, .int x1), (2, .int x2), (3, .int x3)] [] st := by
  refine X_iload_n C dX7_sure_15 rfl (j := 3) rfl ?_
  refine X_aload_n C dX7_sure_16 rfl (j := 0) rfl ?_
  refine X_getI C sh_7 rfl fw_RX7_23 dX7_sure_17 ?_
  refine X_aload_n C dX7_sure_20 rfl (j := 0) rfl ?_
  refine X_getI C sh_7 rfl fw_RX7_23 dX7_sure_21 ?_
  refine X_imul C dX7_sure_24 ?_
  refine X_aload_n C dX7_sure_25 rfl (j := 0) rfl ?_
  refine X_getI C sh_7 rfl fw_RX7_23 dX7_sure_26 ?_
  refine X_imul C dX7_sure_29 ?_
  refine X_icmp_ge C dX7_sure_30 (tgt := 86) (by decide) (fun c => ?_) (fun c => ?_)
  · replace h := h.1 c
    refine X_iload_n C dX7_sure_86 rfl (j := 2) rfl ?_
    exact X_iret C Z rfl dX7_sure_87 h
  · replace h := h.2 c
    refine X_aload_n C dX7_sure_33 rfl (j := 0) rfl ?_
    refine X_iload_n C dX7_sure_34 rfl (j := 3) rfl ?_
    refine X_callV C dX7_sure_35 pw_RX7_139 (b := 7) (as := [.int x3]) (S := []) sh_7 rfl rfl rfl (Nat.le_of_ble_eq_true rfl) (Ct_mono h ?_)
    rintro _ s1 ⟨rfl, h⟩
    show X κ 38 [(0, .ref 7), (1, .int x1), (2, .int x2), (3, .int x3)] [] s1
    refine X_aload_n C dX7_sure_38 rfl (j := 0) rfl ?_
    refine X_callV C dX7_sure_39 pw_RX7_143 (b := 7) (as := []) (S := []) sh_7 rfl rfl rfl (Nat.le_of_ble_eq_true rfl) (Ct_mono h ?_)
    rintro _ s2 ⟨v3, rfl, h⟩
    show X κ 42 [(0, .ref 7), (1, .int x1), (2, .int x2), (3, .int x3)] [.int v3] s2
    refine X_iconst C (v := 1) (by decide) dX7_sure_42 ?_
    refine X_aload_n C dX7_sure_43 rfl (j := 0) rfl ?_
    refine X_getI C sh_7 rfl fw_RX7_126 dX7_sure_44 ?_
    refine X_ishl C dX7_sure_47 ?_
    refine X_iconst C (v := 1) (by decide) dX7_sure_48 ?_
    refine X_isub C dX7_sure_49 ?_
    refine X_icmp_ne C dX7_sure_50 (tgt := 80) (by decide) (fun c => ?_) (fun c => ?_)
    · replace h := h.1 c
      refine X_iinc C dX7_sure_80 (j := 3) rfl (v := x3 + 1) rfl (by decide) (L' := [(3, .int (x3 + 1)), (0, .ref 7), (1, .int x1), (2, .int x2)]) rfl ?_
      refine X_goto C dX7_sure_83 (tgt := 15) (by decide) ?_
      refine X_loc [1, 2, 3, 0] rfl ?_
      exact h
    · replace h := h.2 c
      refine X_iload_n C dX7_sure_53 rfl (j := 2) rfl ?_
      refine X_bipush C (v := (-3)) (by decide) dX7_sure_54 ?_
      refine X_icmp_eq C dX7_sure_56 (tgt := 69) (by decide) (fun c => ?_) (fun c => ?_)
      · replace h := h.1 c
        refine X_aload_n C dX7_sure_69 rfl (j := 0) rfl ?_
        refine X_getR C sh_7 rfl fw_RX7_30 dX7_sure_70 ?_
        refine X_iload_n C dX7_sure_73 rfl (j := 1) rfl ?_
        obtain ⟨g4, h⟩ := h
        refine X_iald C sh_33 g4 dX7_sure_74 ?_
        refine X_goto C dX7_sure_75 (tgt := 79) (by decide) ?_
        refine X_istore_n C dX7_sure_79 rfl (by decide) (L' := [(2, .int (s2.1 33 (x1 : Int32).toNatClampNeg)), (0, .ref 7), (1, .int x1), (3, .int x3)]) rfl ?_
        refine X_iinc C dX7_sure_80 (j := 3) rfl (v := x3 + 1) rfl (by decide) (L' := [(3, .int (x3 + 1)), (2, .int (s2.1 33 (x1 : Int32).toNatClampNeg)), (0, .ref 7), (1, .int x1)]) rfl ?_
        refine X_goto C dX7_sure_83 (tgt := 15) (by decide) ?_
        refine X_loc [2, 3, 1, 0] rfl ?_
        exact h
      · replace h := h.2 c
        refine X_iload_n C dX7_sure_59 rfl (j := 2) rfl ?_
        refine X_aload_n C dX7_sure_60 rfl (j := 0) rfl ?_
        refine X_getR C sh_7 rfl fw_RX7_30 dX7_sure_61 ?_
        refine X_iload_n C dX7_sure_64 rfl (j := 1) rfl ?_
        obtain ⟨g5, h⟩ := h
        refine X_iald C sh_33 g5 dX7_sure_65 ?_
        refine X_icmp_ne C dX7_sure_66 (tgt := 78) (by decide) (fun c => ?_) (fun c => ?_)
        · replace h := h.1 c
          refine X_iconst C (v := (-1)) (by decide) dX7_sure_78 ?_
          refine X_istore_n C dX7_sure_79 rfl (by decide) (L' := [(2, .int ((-1))), (0, .ref 7), (1, .int x1), (3, .int x3)]) rfl ?_
          refine X_iinc C dX7_sure_80 (j := 3) rfl (v := x3 + 1) rfl (by decide) (L' := [(3, .int (x3 + 1)), (2, .int ((-1))), (0, .ref 7), (1, .int x1)]) rfl ?_
          refine X_goto C dX7_sure_83 (tgt := 15) (by decide) ?_
          refine X_loc [2, 3, 1, 0] rfl ?_
          exact h
        · replace h := h.2 c
          refine X_aload_n C dX7_sure_69 rfl (j := 0) rfl ?_
          refine X_getR C sh_7 rfl fw_RX7_30 dX7_sure_70 ?_
          refine X_iload_n C dX7_sure_73 rfl (j := 1) rfl ?_
          obtain ⟨g6, h⟩ := h
          refine X_iald C sh_33 g6 dX7_sure_74 ?_
          refine X_goto C dX7_sure_75 (tgt := 79) (by decide) ?_
          refine X_istore_n C dX7_sure_79 rfl (by decide) (L' := [(2, .int (s2.1 33 (x1 : Int32).toNatClampNeg)), (0, .ref 7), (1, .int x1), (3, .int x3)]) rfl ?_
          refine X_iinc C dX7_sure_80 (j := 3) rfl (v := x3 + 1) rfl (by decide) (L' := [(3, .int (x3 + 1)), (2, .int (s2.1 33 (x1 : Int32).toNatClampNeg)), (0, .ref 7), (1, .int x1)]) rfl ?_
          refine X_goto C dX7_sure_83 (tgt := 15) (by decide) ?_
          refine X_loc [2, 3, 1, 0] rfl ?_
          exact h
set_option maxHeartbeats 4000000 in
set_option maxRecDepth 100000 in
theorem eX7_sure {d : Nat} {Q : Option Value → xSt → Prop} (a1 : Int32) (st : xSt) (h : ∀ κ : xK, Cx κ M_X7_sure (d + 1) → xR κ Q → Ct d M_X7_isUnknown [.int a1] st (Qi fun v2 s1 => ((¬ v2 = 0 → X κ 15 [(0, .ref 7), (1, .int a1), (2, .int ((-3))), (3, .int 0)] [] s1) ∧ (v2 = 0 → Q (some (.int ((-2)))) s1)))) : Ct (d + 1) M_X7_sure [.ref 7, .int a1] st Q := by
  refine Ct_of (by decide +kernel) (Nat.le_of_ble_eq_true rfl) (fun κ C Z => ?_)
  replace h := h κ C Z
  show X κ 0 [(0, .ref 7), (1, .int a1)] [] st
  refine X_iload_n C dX7_sure_0 rfl (j := 1) rfl ?_
  refine X_callS C dX7_sure_1 pw_RX7_129 (as := [.int a1]) (S := []) rfl rfl (Nat.le_of_ble_eq_true rfl) (Ct_mono h ?_)
  rintro _ s1 ⟨v2, rfl, h⟩
  show X κ 4 [(0, .ref 7), (1, .int a1)] [.int v2] s1
  refine X_if_ne C dX7_sure_4 (tgt := 10) (by decide) (fun c => ?_) (fun c => ?_)
  · replace h := h.1 c
    refine X_bipush C (v := (-3)) (by decide) dX7_sure_10 ?_
    refine X_istore_n C dX7_sure_12 rfl (by decide) (L' := [(2, .int ((-3))), (0, .ref 7), (1, .int a1)]) rfl ?_
    refine X_iconst C (v := 0) (by decide) dX7_sure_13 ?_
    refine X_istore_n C dX7_sure_14 rfl (by decide) (L' := [(3, .int 0), (2, .int ((-3))), (0, .ref 7), (1, .int a1)]) rfl ?_
    refine X_loc [2, 3, 1, 0] rfl ?_
    exact h
  · replace h := h.2 c
    refine X_bipush C (v := (-2)) (by decide) dX7_sure_7 ?_
    exact X_iret C Z rfl dX7_sure_9 h
set_option maxHeartbeats 4000000 in
set_option maxRecDepth 100000 in
theorem bX7_ones_4 {κ : xK} {d : Nat} {Q : Option Value → xSt → Prop} (C : Cx κ M_X7_ones (d)) (Z : xR κ Q) (x0 : Int32) (x1 : Int32) (x2 : Int32) (st : xSt) (h : ((8 ≤ x2 → Q (some (.int x1)) st) ∧ (¬ 8 ≤ x2 → X κ 4 [(0, .int x0), (1, .int (x1 + (((x0 : Int32) >>> ((x2 : Int32) &&& 31)) &&& 1))), (2, .int (x2 + 1))] [] st))) : X κ 4 [(0, .int x0), (1, .int x1), (2, .int x2)] [] st := by
  refine X_iload_n C dX7_ones_4 rfl (j := 2) rfl ?_
  refine X_bipush C (v := 8) (by decide) dX7_ones_5 ?_
  refine X_icmp_ge C dX7_ones_7 (tgt := 24) (by decide) (fun c => ?_) (fun c => ?_)
  · replace h := h.1 c
    refine X_iload_n C dX7_ones_24 rfl (j := 1) rfl ?_
    exact X_iret C Z rfl dX7_ones_25 h
  · replace h := h.2 c
    refine X_iload_n C dX7_ones_10 rfl (j := 1) rfl ?_
    refine X_iload_n C dX7_ones_11 rfl (j := 0) rfl ?_
    refine X_iload_n C dX7_ones_12 rfl (j := 2) rfl ?_
    refine X_ishr C dX7_ones_13 ?_
    refine X_iconst C (v := 1) (by decide) dX7_ones_14 ?_
    refine X_iand C dX7_ones_15 ?_
    refine X_iadd C dX7_ones_16 ?_
    refine X_istore_n C dX7_ones_17 rfl (by decide) (L' := [(1, .int (x1 + (((x0 : Int32) >>> ((x2 : Int32) &&& 31)) &&& 1))), (0, .int x0), (2, .int x2)]) rfl ?_
    refine X_iinc C dX7_ones_18 (j := 2) rfl (v := x2 + 1) rfl (by decide) (L' := [(2, .int (x2 + 1)), (1, .int (x1 + (((x0 : Int32) >>> ((x2 : Int32) &&& 31)) &&& 1))), (0, .int x0)]) rfl ?_
    refine X_goto C dX7_ones_21 (tgt := 4) (by decide) ?_
    refine X_loc [2, 1, 0] rfl ?_
    exact h
set_option maxHeartbeats 4000000 in
set_option maxRecDepth 100000 in
theorem eX7_ones {d : Nat} {Q : Option Value → xSt → Prop} (a0 : Int32) (st : xSt) (h : ∀ κ : xK, Cx κ M_X7_ones (d) → xR κ Q → X κ 4 [(0, .int a0), (1, .int 0), (2, .int 0)] [] st) : Ct (d) M_X7_ones [.int a0] st Q := by
  refine Ct_of (by decide +kernel) (Nat.le_of_ble_eq_true rfl) (fun κ C Z => ?_)
  replace h := h κ C Z
  show X κ 0 [(0, .int a0)] [] st
  refine X_iconst C (v := 0) (by decide) dX7_ones_0 ?_
  refine X_istore_n C dX7_ones_1 rfl (by decide) (L' := [(1, .int 0), (0, .int a0)]) rfl ?_
  refine X_iconst C (v := 0) (by decide) dX7_ones_2 ?_
  refine X_istore_n C dX7_ones_3 rfl (by decide) (L' := [(2, .int 0), (1, .int 0), (0, .int a0)]) rfl ?_
  refine X_loc [2, 1, 0] rfl ?_
  exact h
set_option maxHeartbeats 4000000 in
set_option maxRecDepth 100000 in
theorem bX7_quarrel_2 {κ : xK} {d : Nat} {Q : Option Value → xSt → Prop} (C : Cx κ M_X7_quarrel (d + 1)) (Z : xR κ Q) (x1 : Int32) (st : xSt) (h : ((256 ≤ x1 → X κ 24 [(0, .ref 7), (1, .int 0)] [] st) ∧ (¬ 256 ≤ x1 → vp_in x1 256 ∧ X κ 2 [(0, .ref 7), (1, .int (x1 + 1))] [] (xup st 34 (x1 : Int32).toNatClampNeg (vp_nar .boolean 0))))) : X κ 2 [(0, .ref 7), (1, .int x1)] [] st := by
  refine X_iload_n C dX7_quarrel_2 rfl (j := 1) rfl ?_
  refine X_sipush C (v := 256) (by decide) dX7_quarrel_3 ?_
  refine X_icmp_ge C dX7_quarrel_6 (tgt := 22) (by decide) (fun c => ?_) (fun c => ?_)
  · replace h := h.1 c
    refine X_iconst C (v := 0) (by decide) dX7_quarrel_22 ?_
    refine X_istore_n C dX7_quarrel_23 rfl (by decide) (L' := [(1, .int 0), (0, .ref 7)]) rfl ?_
    refine X_loc [1, 0] rfl ?_
    exact h
  · replace h := h.2 c
    refine X_aload_n C dX7_quarrel_9 rfl (j := 0) rfl ?_
    refine X_getR C sh_7 rfl fw_RX7_33 dX7_quarrel_10 ?_
    refine X_iload_n C dX7_quarrel_13 rfl (j := 1) rfl ?_
    refine X_iconst C (v := 0) (by decide) dX7_quarrel_14 ?_
    obtain ⟨g1, h⟩ := h
    refine X_zast C sh_34 g1 dX7_quarrel_15 ?_
    refine X_iinc C dX7_quarrel_16 (j := 1) rfl (v := x1 + 1) rfl (by decide) (L' := [(1, .int (x1 + 1)), (0, .ref 7)]) rfl ?_
    refine X_goto C dX7_quarrel_19 (tgt := 2) (by decide) ?_
    refine X_loc [1, 0] rfl ?_
    exact h
set_option maxHeartbeats 4000000 in
set_option maxRecDepth 100000 in
theorem bX7_quarrel_24 {κ : xK} {d : Nat} {Q : Option Value → xSt → Prop} (C : Cx κ M_X7_quarrel (d + 1)) (Z : xR κ Q) (x1 : Int32) (st : xSt) (h : (((((st.1 7 5) * (st.1 7 5)) * (st.1 7 5)) ≤ x1 → X κ 67 [(0, .ref 7), (1, .int 0), (2, .int 1)] [] st) ∧ (¬ (((st.1 7 5) * (st.1 7 5)) * (st.1 7 5)) ≤ x1 → Ct d M_X7_tryOut [.ref 7, .int x1] st (Qv fun s1 => Ct d M_X7_holding [.ref 7] s1 (Qi fun v3 s2 => vp_in v3 256 ∧ X κ 24 [(0, .ref 7), (1, .int (x1 + 1))] [] (xup s2 34 (v3 : Int32).toNatClampNeg (vp_nar .boolean 1))))))) : X κ 24 [(0, .ref 7), (1, .int x1)] [] st := by
  refine X_iload_n C dX7_quarrel_24 rfl (j := 1) rfl ?_
  refine X_aload_n C dX7_quarrel_25 rfl (j := 0) rfl ?_
  refine X_getI C sh_7 rfl fw_RX7_23 dX7_quarrel_26 ?_
  refine X_aload_n C dX7_quarrel_29 rfl (j := 0) rfl ?_
  refine X_getI C sh_7 rfl fw_RX7_23 dX7_quarrel_30 ?_
  refine X_imul C dX7_quarrel_33 ?_
  refine X_aload_n C dX7_quarrel_34 rfl (j := 0) rfl ?_
  refine X_getI C sh_7 rfl fw_RX7_23 dX7_quarrel_35 ?_
  refine X_imul C dX7_quarrel_38 ?_
  refine X_icmp_ge C dX7_quarrel_39 (tgt := 63) (by decide) (fun c => ?_) (fun c => ?_)
  · replace h := h.1 c
    refine X_iconst C (v := 0) (by decide) dX7_quarrel_63 ?_
    refine X_istore_n C dX7_quarrel_64 rfl (by decide) (L' := [(1, .int 0), (0, .ref 7)]) rfl ?_
    refine X_iconst C (v := 1) (by decide) dX7_quarrel_65 ?_
    refine X_istore_n C dX7_quarrel_66 rfl (by decide) (L' := [(2, .int 1), (1, .int 0), (0, .ref 7)]) rfl ?_
    refine X_loc [2, 1, 0] rfl ?_
    exact h
  · replace h := h.2 c
    refine X_aload_n C dX7_quarrel_42 rfl (j := 0) rfl ?_
    refine X_iload_n C dX7_quarrel_43 rfl (j := 1) rfl ?_
    refine X_callV C dX7_quarrel_44 pw_RX7_139 (b := 7) (as := [.int x1]) (S := []) sh_7 rfl rfl rfl (Nat.le_of_ble_eq_true rfl) (Ct_mono h ?_)
    rintro _ s1 ⟨rfl, h⟩
    show X κ 47 [(0, .ref 7), (1, .int x1)] [] s1
    refine X_aload_n C dX7_quarrel_47 rfl (j := 0) rfl ?_
    refine X_getR C sh_7 rfl fw_RX7_33 dX7_quarrel_48 ?_
    refine X_aload_n C dX7_quarrel_51 rfl (j := 0) rfl ?_
    refine X_callV C dX7_quarrel_52 pw_RX7_143 (b := 7) (as := []) (S := [.ref 34]) sh_7 rfl rfl rfl (Nat.le_of_ble_eq_true rfl) (Ct_mono h ?_)
    rintro _ s2 ⟨v3, rfl, h⟩
    show X κ 55 [(0, .ref 7), (1, .int x1)] [.int v3, .ref 34] s2
    refine X_iconst C (v := 1) (by decide) dX7_quarrel_55 ?_
    obtain ⟨g4, h⟩ := h
    refine X_zast C sh_34 g4 dX7_quarrel_56 ?_
    refine X_iinc C dX7_quarrel_57 (j := 1) rfl (v := x1 + 1) rfl (by decide) (L' := [(1, .int (x1 + 1)), (0, .ref 7)]) rfl ?_
    refine X_goto C dX7_quarrel_60 (tgt := 24) (by decide) ?_
    refine X_loc [1, 0] rfl ?_
    exact h
set_option maxHeartbeats 4000000 in
set_option maxRecDepth 100000 in
theorem bX7_quarrel_67 {κ : xK} {d : Nat} {Q : Option Value → xSt → Prop} (C : Cx κ M_X7_quarrel (d + 1)) (Z : xR κ Q) (x1 : Int32) (x2 : Int32) (st : xSt) (h : ((((1 : Int32) <<< ((st.1 7 6 : Int32) &&& 31)) ≤ x2 → Q (some (.int x1)) st) ∧ (¬ ((1 : Int32) <<< ((st.1 7 6 : Int32) &&& 31)) ≤ x2 → X κ 82 [(0, .ref 7), (1, .int x1), (2, .int x2), (3, .int 0), (4, .int 0)] [] st))) : X κ 67 [(0, .ref 7), (1, .int x1), (2, .int x2)] [] st := by
  refine X_iload_n C dX7_quarrel_67 rfl (j := 2) rfl ?_
  refine X_iconst C (v := 1) (by decide) dX7_quarrel_68 ?_
  refine X_aload_n C dX7_quarrel_69 rfl (j := 0) rfl ?_
  refine X_getI C sh_7 rfl fw_RX7_126 dX7_quarrel_70 ?_
  refine X_ishl C dX7_quarrel_73 ?_
  refine X_icmp_ge C dX7_quarrel_74 (tgt := 156) (by decide) (fun c => ?_) (fun c => ?_)
  · replace h := h.1 c
    refine X_iload_n C dX7_quarrel_156 rfl (j := 1) rfl ?_
    exact X_iret C Z rfl dX7_quarrel_157 h
  · replace h := h.2 c
    refine X_iconst C (v := 0) (by decide) dX7_quarrel_77 ?_
    refine X_istore_n C dX7_quarrel_78 rfl (by decide) (L' := [(3, .int 0), (0, .ref 7), (1, .int x1), (2, .int x2)]) rfl ?_
    refine X_iconst C (v := 0) (by decide) dX7_quarrel_79 ?_
    refine X_istore C dX7_quarrel_80 (by decide) (L' := [(4, .int 0), (3, .int 0), (0, .ref 7), (1, .int x1), (2, .int x2)]) rfl ?_
    refine X_loc [2, 3, 4, 1, 0] rfl ?_
    exact h
set_option maxHeartbeats 4000000 in
set_option maxRecDepth 100000 in
theorem bX7_quarrel_82 {κ : xK} {d : Nat} {Q : Option Value → xSt → Prop} (C : Cx κ M_X7_quarrel (d + 1)) (Z : xR κ Q) (x1 : Int32) (x2 : Int32) (x3 : Int32) (x4 : Int32) (st : xSt) (h : ((((1 : Int32) <<< ((st.1 7 6 : Int32) &&& 31)) ≤ x4 → ((¬ x3 = 0 → X κ 67 [(0, .ref 7), (1, .int x1), (2, .int (x2 + 1))] [] st) ∧ (x3 = 0 → ((x1 = 0 → X κ 67 [(0, .ref 7), (1, .int x2), (2, .int (x2 + 1))] [] st) ∧ (¬ x1 = 0 → Ct d M_X7_ones [.int x2] st (Qi fun v2 s1 => Ct d M_X7_ones [.int x1] s1 (Qi fun v4 s3 => ((v4 ≤ v2 → X κ 67 [(0, .ref 7), (1, .int x1), (2, .int (x2 + 1))] [] s3) ∧ (¬ v4 ≤ v2 → X κ 67 [(0, .ref 7), (1, .int x2), (2, .int (x2 + 1))] [] s3))))))))) ∧ (¬ ((1 : Int32) <<< ((st.1 7 6 : Int32) &&& 31)) ≤ x4 → ((¬ (x4 &&& x2) = x2 → X κ 82 [(0, .ref 7), (1, .int x1), (2, .int x2), (3, .int (x3 ||| 0)), (4, .int (x4 + 1))] [] st) ∧ ((x4 &&& x2) = x2 → vp_in x4 256 ∧ (((st.1 34 (x4 : Int32).toNatClampNeg) = 0 → X κ 82 [(0, .ref 7), (1, .int x1), (2, .int x2), (3, .int (x3 ||| 0)), (4, .int (x4 + 1))] [] st) ∧ (¬ (st.1 34 (x4 : Int32).toNatClampNeg) = 0 → X κ 82 [(0, .ref 7), (1, .int x1), (2, .int x2), (3, .int (x3 ||| 1)), (4, .int (x4 + 1))] [] st))))))) : X κ 82 [(0, .ref 7), (1, .int x1), (2, .int x2), (3, .int x3), (4, .int x4)] [] st := by
  refine X_iload C dX7_quarrel_82 (j := 4) rfl ?_
  refine X_iconst C (v := 1) (by decide) dX7_quarrel_84 ?_
  refine X_aload_n C dX7_quarrel_85 rfl (j := 0) rfl ?_
  refine X_getI C sh_7 rfl fw_RX7_126 dX7_quarrel_86 ?_
  refine X_ishl C dX7_quarrel_89 ?_
  refine X_icmp_ge C dX7_quarrel_90 (tgt := 125) (by decide) (fun c => ?_) (fun c => ?_)
  · replace h := h.1 c
    refine X_iload_n C dX7_quarrel_125 rfl (j := 3) rfl ?_
    refine X_if_ne C dX7_quarrel_126 (tgt := 148) (by decide) (fun c => ?_) (fun c => ?_)
    · replace h := h.1 c
      refine X_iload_n C dX7_quarrel_148 rfl (j := 1) rfl ?_
      refine X_istore_n C dX7_quarrel_149 rfl (by decide) (L' := [(1, .int x1), (0, .ref 7), (2, .int x2), (3, .int x3), (4, .int x4)]) rfl ?_
      refine X_iinc C dX7_quarrel_150 (j := 2) rfl (v := x2 + 1) rfl (by decide) (L' := [(2, .int (x2 + 1)), (1, .int x1), (0, .ref 7), (3, .int x3), (4, .int x4)]) rfl ?_
      refine X_goto C dX7_quarrel_153 (tgt := 67) (by decide) ?_
      refine X_loc [2, 1, 0] rfl ?_
      exact h
    · replace h := h.2 c
      refine X_iload_n C dX7_quarrel_129 rfl (j := 1) rfl ?_
      refine X_if_eq C dX7_quarrel_130 (tgt := 144) (by decide) (fun c => ?_) (fun c => ?_)
      · replace h := h.1 c
        refine X_iload_n C dX7_quarrel_144 rfl (j := 2) rfl ?_
        refine X_goto C dX7_quarrel_145 (tgt := 149) (by decide) ?_
        refine X_istore_n C dX7_quarrel_149 rfl (by decide) (L' := [(1, .int x2), (0, .ref 7), (2, .int x2), (3, .int x3), (4, .int x4)]) rfl ?_
        refine X_iinc C dX7_quarrel_150 (j := 2) rfl (v := x2 + 1) rfl (by decide) (L' := [(2, .int (x2 + 1)), (1, .int x2), (0, .ref 7), (3, .int x3), (4, .int x4)]) rfl ?_
        refine X_goto C dX7_quarrel_153 (tgt := 67) (by decide) ?_
        refine X_loc [2, 1, 0] rfl ?_
        exact h
      · replace h := h.2 c
        refine X_iload_n C dX7_quarrel_133 rfl (j := 2) rfl ?_
        refine X_callS C dX7_quarrel_134 pw_RX7_150 (as := [.int x2]) (S := []) rfl rfl (Nat.le_of_ble_eq_true rfl) (Ct_mono h ?_)
        rintro _ s1 ⟨v2, rfl, h⟩
        show X κ 137 [(0, .ref 7), (1, .int x1), (2, .int x2), (3, .int x3), (4, .int x4)] [.int v2] s1
        refine X_iload_n C dX7_quarrel_137 rfl (j := 1) rfl ?_
        refine X_callS C dX7_quarrel_138 pw_RX7_150 (as := [.int x1]) (S := [.int v2]) rfl rfl (Nat.le_of_ble_eq_true rfl) (Ct_mono h ?_)
        rintro _ s3 ⟨v4, rfl, h⟩
        show X κ 141 [(0, .ref 7), (1, .int x1), (2, .int x2), (3, .int x3), (4, .int x4)] [.int v4, .int v2] s3
        refine X_icmp_ge C dX7_quarrel_141 (tgt := 148) (by decide) (fun c => ?_) (fun c => ?_)
        · replace h := h.1 c
          refine X_iload_n C dX7_quarrel_148 rfl (j := 1) rfl ?_
          refine X_istore_n C dX7_quarrel_149 rfl (by decide) (L' := [(1, .int x1), (0, .ref 7), (2, .int x2), (3, .int x3), (4, .int x4)]) rfl ?_
          refine X_iinc C dX7_quarrel_150 (j := 2) rfl (v := x2 + 1) rfl (by decide) (L' := [(2, .int (x2 + 1)), (1, .int x1), (0, .ref 7), (3, .int x3), (4, .int x4)]) rfl ?_
          refine X_goto C dX7_quarrel_153 (tgt := 67) (by decide) ?_
          refine X_loc [2, 1, 0] rfl ?_
          exact h
        · replace h := h.2 c
          refine X_iload_n C dX7_quarrel_144 rfl (j := 2) rfl ?_
          refine X_goto C dX7_quarrel_145 (tgt := 149) (by decide) ?_
          refine X_istore_n C dX7_quarrel_149 rfl (by decide) (L' := [(1, .int x2), (0, .ref 7), (2, .int x2), (3, .int x3), (4, .int x4)]) rfl ?_
          refine X_iinc C dX7_quarrel_150 (j := 2) rfl (v := x2 + 1) rfl (by decide) (L' := [(2, .int (x2 + 1)), (1, .int x2), (0, .ref 7), (3, .int x3), (4, .int x4)]) rfl ?_
          refine X_goto C dX7_quarrel_153 (tgt := 67) (by decide) ?_
          refine X_loc [2, 1, 0] rfl ?_
          exact h
  · replace h := h.2 c
    refine X_iload_n C dX7_quarrel_93 rfl (j := 3) rfl ?_
    refine X_iload C dX7_quarrel_94 (j := 4) rfl ?_
    refine X_iload_n C dX7_quarrel_96 rfl (j := 2) rfl ?_
    refine X_iand C dX7_quarrel_97 ?_
    refine X_iload_n C dX7_quarrel_98 rfl (j := 2) rfl ?_
    refine X_icmp_ne C dX7_quarrel_99 (tgt := 116) (by decide) (fun c => ?_) (fun c => ?_)
    · replace h := h.1 c
      refine X_iconst C (v := 0) (by decide) dX7_quarrel_116 ?_
      refine X_ior C dX7_quarrel_117 ?_
      refine X_istore_n C dX7_quarrel_118 rfl (by decide) (L' := [(3, .int (x3 ||| 0)), (0, .ref 7), (1, .int x1), (2, .int x2), (4, .int x4)]) rfl ?_
      refine X_iinc C dX7_quarrel_119 (j := 4) rfl (v := x4 + 1) rfl (by decide) (L' := [(4, .int (x4 + 1)), (3, .int (x3 ||| 0)), (0, .ref 7), (1, .int x1), (2, .int x2)]) rfl ?_
      refine X_goto C dX7_quarrel_122 (tgt := 82) (by decide) ?_
      refine X_loc [2, 3, 4, 1, 0] rfl ?_
      exact h
    · replace h := h.2 c
      refine X_aload_n C dX7_quarrel_102 rfl (j := 0) rfl ?_
      refine X_getR C sh_7 rfl fw_RX7_33 dX7_quarrel_103 ?_
      refine X_iload C dX7_quarrel_106 (j := 4) rfl ?_
      obtain ⟨g5, h⟩ := h
      refine X_zald C sh_34 g5 dX7_quarrel_108 ?_
      refine X_if_eq C dX7_quarrel_109 (tgt := 116) (by decide) (fun c => ?_) (fun c => ?_)
      · replace h := h.1 c
        refine X_iconst C (v := 0) (by decide) dX7_quarrel_116 ?_
        refine X_ior C dX7_quarrel_117 ?_
        refine X_istore_n C dX7_quarrel_118 rfl (by decide) (L' := [(3, .int (x3 ||| 0)), (0, .ref 7), (1, .int x1), (2, .int x2), (4, .int x4)]) rfl ?_
        refine X_iinc C dX7_quarrel_119 (j := 4) rfl (v := x4 + 1) rfl (by decide) (L' := [(4, .int (x4 + 1)), (3, .int (x3 ||| 0)), (0, .ref 7), (1, .int x1), (2, .int x2)]) rfl ?_
        refine X_goto C dX7_quarrel_122 (tgt := 82) (by decide) ?_
        refine X_loc [2, 3, 4, 1, 0] rfl ?_
        exact h
      · replace h := h.2 c
        refine X_iconst C (v := 1) (by decide) dX7_quarrel_112 ?_
        refine X_goto C dX7_quarrel_113 (tgt := 117) (by decide) ?_
        refine X_ior C dX7_quarrel_117 ?_
        refine X_istore_n C dX7_quarrel_118 rfl (by decide) (L' := [(3, .int (x3 ||| 1)), (0, .ref 7), (1, .int x1), (2, .int x2), (4, .int x4)]) rfl ?_
        refine X_iinc C dX7_quarrel_119 (j := 4) rfl (v := x4 + 1) rfl (by decide) (L' := [(4, .int (x4 + 1)), (3, .int (x3 ||| 1)), (0, .ref 7), (1, .int x1), (2, .int x2)]) rfl ?_
        refine X_goto C dX7_quarrel_122 (tgt := 82) (by decide) ?_
        refine X_loc [2, 3, 4, 1, 0] rfl ?_
        exact h
set_option maxHeartbeats 4000000 in
set_option maxRecDepth 100000 in
theorem eX7_quarrel {d : Nat} {Q : Option Value → xSt → Prop} (st : xSt) (h : ∀ κ : xK, Cx κ M_X7_quarrel (d + 1) → xR κ Q → X κ 2 [(0, .ref 7), (1, .int 0)] [] st) : Ct (d + 1) M_X7_quarrel [.ref 7] st Q := by
  refine Ct_of (by decide +kernel) (Nat.le_of_ble_eq_true rfl) (fun κ C Z => ?_)
  replace h := h κ C Z
  show X κ 0 [(0, .ref 7)] [] st
  refine X_iconst C (v := 0) (by decide) dX7_quarrel_0 ?_
  refine X_istore_n C dX7_quarrel_1 rfl (by decide) (L' := [(1, .int 0), (0, .ref 7)]) rfl ?_
  refine X_loc [1, 0] rfl ?_
  exact h
set_option maxHeartbeats 4000000 in
set_option maxRecDepth 100000 in
theorem bX7_heardAs_11 {κ : xK} {d : Nat} {Q : Option Value → xSt → Prop} (C : Cx κ M_X7_heardAs (d + 1)) (Z : xR κ Q) (x1 : Int32) (x2 : Int32) (x3 : Int32) (x4 : Int32) (x5 : Int32) (st : xSt) (h : ((400 < x5 → Q (some (.int ((-1)))) st) ∧ (¬ 400 < x5 → Ct d M_X7_wordOf [.ref 7, .int x1, .int x4] st (Qi fun v2 s1 => Ct d M_X7_handOf [.ref 7, .int x1, .int x4] s1 (Qi fun v4 s3 => Ct d M_X7_menOf [.ref 7, .int x1, .int x3] s3 (Qi fun v6 s5 => Ct d M_X7_mayMean [.ref 7, .int x2, .int v2, .int v4, .int v6, .int x5] s5 (Qi fun v8 s7 => ((v8 = 0 → X κ 11 [(0, .ref 7), (1, .int x1), (2, .int x2), (3, .int x3), (4, .int x4), (5, .int (x5 + 1))] [] s7) ∧ (¬ v8 = 0 → Q (some (.int x5)) s7))))))))) : X κ 11 [(0, .ref 7), (1, .int x1), (2, .int x2), (3, .int x3), (4, .int x4), (5, .int x5)] [] st := by
  refine X_iload C dX7_heardAs_11 (j := 5) rfl ?_
  refine X_sipush C (v := 400) (by decide) dX7_heardAs_13 ?_
  refine X_icmp_gt C dX7_heardAs_16 (tgt := 58) (by decide) (fun c => ?_) (fun c => ?_)
  · replace h := h.1 c
    refine X_iconst C (v := (-1)) (by decide) dX7_heardAs_58 ?_
    exact X_iret C Z rfl dX7_heardAs_59 h
  · replace h := h.2 c
    refine X_aload_n C dX7_heardAs_19 rfl (j := 0) rfl ?_
    refine X_iload_n C dX7_heardAs_20 rfl (j := 2) rfl ?_
    refine X_aload_n C dX7_heardAs_21 rfl (j := 0) rfl ?_
    refine X_iload_n C dX7_heardAs_22 rfl (j := 1) rfl ?_
    refine X_iload C dX7_heardAs_23 (j := 4) rfl ?_
    refine X_callV C dX7_heardAs_25 pw_RX7_106 (b := 7) (as := [.int x1, .int x4]) (S := [.int x2, .ref 7]) sh_7 rfl rfl rfl (Nat.le_of_ble_eq_true rfl) (Ct_mono h ?_)
    rintro _ s1 ⟨v2, rfl, h⟩
    show X κ 28 [(0, .ref 7), (1, .int x1), (2, .int x2), (3, .int x3), (4, .int x4), (5, .int x5)] [.int v2, .int x2, .ref 7] s1
    refine X_aload_n C dX7_heardAs_28 rfl (j := 0) rfl ?_
    refine X_iload_n C dX7_heardAs_29 rfl (j := 1) rfl ?_
    refine X_iload C dX7_heardAs_30 (j := 4) rfl ?_
    refine X_callV C dX7_heardAs_32 pw_RX7_109 (b := 7) (as := [.int x1, .int x4]) (S := [.int v2, .int x2, .ref 7]) sh_7 rfl rfl rfl (Nat.le_of_ble_eq_true rfl) (Ct_mono h ?_)
    rintro _ s3 ⟨v4, rfl, h⟩
    show X κ 35 [(0, .ref 7), (1, .int x1), (2, .int x2), (3, .int x3), (4, .int x4), (5, .int x5)] [.int v4, .int v2, .int x2, .ref 7] s3
    refine X_aload_n C dX7_heardAs_35 rfl (j := 0) rfl ?_
    refine X_iload_n C dX7_heardAs_36 rfl (j := 1) rfl ?_
    refine X_iload_n C dX7_heardAs_37 rfl (j := 3) rfl ?_
    refine X_callV C dX7_heardAs_38 pw_RX7_112 (b := 7) (as := [.int x1, .int x3]) (S := [.int v4, .int v2, .int x2, .ref 7]) sh_7 rfl rfl rfl (Nat.le_of_ble_eq_true rfl) (Ct_mono h ?_)
    rintro _ s5 ⟨v6, rfl, h⟩
    show X κ 41 [(0, .ref 7), (1, .int x1), (2, .int x2), (3, .int x3), (4, .int x4), (5, .int x5)] [.int v6, .int v4, .int v2, .int x2, .ref 7] s5
    refine X_iload C dX7_heardAs_41 (j := 5) rfl ?_
    refine X_callV C dX7_heardAs_43 pw_RX7_122 (b := 7) (as := [.int x2, .int v2, .int v4, .int v6, .int x5]) (S := []) sh_7 rfl rfl rfl (Nat.le_of_ble_eq_true rfl) (Ct_mono h ?_)
    rintro _ s7 ⟨v8, rfl, h⟩
    show X κ 46 [(0, .ref 7), (1, .int x1), (2, .int x2), (3, .int x3), (4, .int x4), (5, .int x5)] [.int v8] s7
    refine X_if_eq C dX7_heardAs_46 (tgt := 52) (by decide) (fun c => ?_) (fun c => ?_)
    · replace h := h.1 c
      refine X_iinc C dX7_heardAs_52 (j := 5) rfl (v := x5 + 1) rfl (by decide) (L' := [(5, .int (x5 + 1)), (0, .ref 7), (1, .int x1), (2, .int x2), (3, .int x3), (4, .int x4)]) rfl ?_
      refine X_goto C dX7_heardAs_55 (tgt := 11) (by decide) ?_
      refine X_loc [1, 2, 3, 4, 5, 0] rfl ?_
      exact h
    · replace h := h.2 c
      refine X_iload C dX7_heardAs_49 (j := 5) rfl ?_
      exact X_iret C Z rfl dX7_heardAs_51 h
set_option maxHeartbeats 4000000 in
set_option maxRecDepth 100000 in
theorem eX7_heardAs {d : Nat} {Q : Option Value → xSt → Prop} (a1 : Int32) (a2 : Int32) (a3 : Int32) (st : xSt) (h : ∀ κ : xK, Cx κ M_X7_heardAs (d + 1) → xR κ Q → Ct d M_X7_placeOf [.ref 7, .int a1, .int a3] st (Qi fun v2 s1 => X κ 11 [(0, .ref 7), (1, .int a1), (2, .int a2), (3, .int a3), (4, .int v2), (5, .int 1)] [] s1)) : Ct (d + 1) M_X7_heardAs [.ref 7, .int a1, .int a2, .int a3] st Q := by
  refine Ct_of (by decide +kernel) (Nat.le_of_ble_eq_true rfl) (fun κ C Z => ?_)
  replace h := h κ C Z
  show X κ 0 [(0, .ref 7), (1, .int a1), (2, .int a2), (3, .int a3)] [] st
  refine X_aload_n C dX7_heardAs_0 rfl (j := 0) rfl ?_
  refine X_iload_n C dX7_heardAs_1 rfl (j := 1) rfl ?_
  refine X_iload_n C dX7_heardAs_2 rfl (j := 3) rfl ?_
  refine X_callV C dX7_heardAs_3 pw_RX7_115 (b := 7) (as := [.int a1, .int a3]) (S := []) sh_7 rfl rfl rfl (Nat.le_of_ble_eq_true rfl) (Ct_mono h ?_)
  rintro _ s1 ⟨v2, rfl, h⟩
  show X κ 6 [(0, .ref 7), (1, .int a1), (2, .int a2), (3, .int a3)] [.int v2] s1
  refine X_istore C dX7_heardAs_6 (by decide) (L' := [(4, .int v2), (0, .ref 7), (1, .int a1), (2, .int a2), (3, .int a3)]) rfl ?_
  refine X_iconst C (v := 1) (by decide) dX7_heardAs_8 ?_
  refine X_istore C dX7_heardAs_9 (by decide) (L' := [(5, .int 1), (4, .int v2), (0, .ref 7), (1, .int a1), (2, .int a2), (3, .int a3)]) rfl ?_
  refine X_loc [2, 3, 4, 5, 1, 0] rfl ?_
  exact h
set_option maxHeartbeats 4000000 in
set_option maxRecDepth 100000 in
theorem eX7_heard {d : Nat} {Q : Option Value → xSt → Prop} (a1 : Int32) (a2 : Int32) (a3 : Int32) (st : xSt) (h : Ct d M_X7_isCount [.ref 7, .int a1] st (Qi fun v2 s1 => ((v2 = 0 → Q (some (.int ((-2)))) s1) ∧ (¬ v2 = 0 → Ct d M_X7_isCount [.ref 7, .int a2] s1 (Qi fun v4 s3 => ((v4 = 0 → Q (some (.int ((-2)))) s3) ∧ (¬ v4 = 0 → Ct d M_X7_in [.int a3, .int 1, .int 400] s3 (Qi fun v6 s5 => ((v6 = 0 → Q (some (.int ((-2)))) s5) ∧ (¬ v6 = 0 → Ct d M_X7_heardAs [.ref 7, .int a1, .int a2, .int a3] s5 (Qi fun v8 s7 => Q (some (.int v8)) s7))))))))))) : Ct (d + 1) M_X7_heard [.ref 7, .int a1, .int a2, .int a3] st Q := by
  refine Ct_of (by decide +kernel) (Nat.le_of_ble_eq_true rfl) (fun κ C Z => ?_)
  show X κ 0 [(0, .ref 7), (1, .int a1), (2, .int a2), (3, .int a3)] [] st
  refine X_aload_n C dX7_heard_0 rfl (j := 0) rfl ?_
  refine X_iload_n C dX7_heard_1 rfl (j := 1) rfl ?_
  refine X_callV C dX7_heard_2 pw_RX7_93 (b := 7) (as := [.int a1]) (S := []) sh_7 rfl rfl rfl (Nat.le_of_ble_eq_true rfl) (Ct_mono h ?_)
  rintro _ s1 ⟨v2, rfl, h⟩
  show X κ 5 [(0, .ref 7), (1, .int a1), (2, .int a2), (3, .int a3)] [.int v2] s1
  refine X_if_eq C dX7_heard_5 (tgt := 37) (by decide) (fun c => ?_) (fun c => ?_)
  · replace h := h.1 c
    refine X_bipush C (v := (-2)) (by decide) dX7_heard_37 ?_
    exact X_iret C Z rfl dX7_heard_39 h
  · replace h := h.2 c
    refine X_aload_n C dX7_heard_8 rfl (j := 0) rfl ?_
    refine X_iload_n C dX7_heard_9 rfl (j := 2) rfl ?_
    refine X_callV C dX7_heard_10 pw_RX7_93 (b := 7) (as := [.int a2]) (S := []) sh_7 rfl rfl rfl (Nat.le_of_ble_eq_true rfl) (Ct_mono h ?_)
    rintro _ s3 ⟨v4, rfl, h⟩
    show X κ 13 [(0, .ref 7), (1, .int a1), (2, .int a2), (3, .int a3)] [.int v4] s3
    refine X_if_eq C dX7_heard_13 (tgt := 37) (by decide) (fun c => ?_) (fun c => ?_)
    · replace h := h.1 c
      refine X_bipush C (v := (-2)) (by decide) dX7_heard_37 ?_
      exact X_iret C Z rfl dX7_heard_39 h
    · replace h := h.2 c
      refine X_iload_n C dX7_heard_16 rfl (j := 3) rfl ?_
      refine X_iconst C (v := 1) (by decide) dX7_heard_17 ?_
      refine X_sipush C (v := 400) (by decide) dX7_heard_18 ?_
      refine X_callS C dX7_heard_21 pw_RX7_75 (as := [.int a3, .int 1, .int 400]) (S := []) rfl rfl (Nat.le_of_ble_eq_true rfl) (Ct_mono h ?_)
      rintro _ s5 ⟨v6, rfl, h⟩
      show X κ 24 [(0, .ref 7), (1, .int a1), (2, .int a2), (3, .int a3)] [.int v6] s5
      refine X_if_eq C dX7_heard_24 (tgt := 37) (by decide) (fun c => ?_) (fun c => ?_)
      · replace h := h.1 c
        refine X_bipush C (v := (-2)) (by decide) dX7_heard_37 ?_
        exact X_iret C Z rfl dX7_heard_39 h
      · replace h := h.2 c
        refine X_aload_n C dX7_heard_27 rfl (j := 0) rfl ?_
        refine X_iload_n C dX7_heard_28 rfl (j := 1) rfl ?_
        refine X_iload_n C dX7_heard_29 rfl (j := 2) rfl ?_
        refine X_iload_n C dX7_heard_30 rfl (j := 3) rfl ?_
        refine X_callV C dX7_heard_31 pw_RX7_153 (b := 7) (as := [.int a1, .int a2, .int a3]) (S := []) sh_7 rfl rfl rfl (Nat.le_of_ble_eq_true rfl) (Ct_mono h ?_)
        rintro _ s7 ⟨v8, rfl, h⟩
        show X κ 34 [(0, .ref 7), (1, .int a1), (2, .int a2), (3, .int a3)] [.int v8] s7
        refine X_goto C dX7_heard_34 (tgt := 39) (by decide) ?_
        exact X_iret C Z rfl dX7_heard_39 h
set_option maxHeartbeats 4000000 in
set_option maxRecDepth 100000 in
theorem bX7_clear_36 {κ : xK} {d : Nat} {Q : Option Value → xSt → Prop} (C : Cx κ M_X7_clear (d + 1)) (Z : xR κ Q) (x1 : Int32) (x2 : Int32) (x3 : Int32) (x4 : Int32) (x5 : Int32) (st : xSt) (h : ((x3 < x5 → Q (some (.int x4)) st) ∧ (¬ x3 < x5 → Ct d M_X7_heardAs [.ref 7, .int x1, .int x2, .int x5] st (Qi fun v2 s1 => ((¬ v2 = x5 → X κ 36 [(0, .ref 7), (1, .int x1), (2, .int x2), (3, .int x3), (4, .int (x4 + 0)), (5, .int (x5 + 1))] [] s1) ∧ (v2 = x5 → X κ 36 [(0, .ref 7), (1, .int x1), (2, .int x2), (3, .int x3), (4, .int (x4 + 1)), (5, .int (x5 + 1))] [] s1)))))) : X κ 36 [(0, .ref 7), (1, .int x1), (2, .int x2), (3, .int x3), (4, .int x4), (5, .int x5)] [] st := by
  refine X_iload C dX7_clear_36 (j := 5) rfl ?_
  refine X_iload_n C dX7_clear_38 rfl (j := 3) rfl ?_
  refine X_icmp_gt C dX7_clear_39 (tgt := 71) (by decide) (fun c => ?_) (fun c => ?_)
  · replace h := h.1 c
    refine X_iload C dX7_clear_71 (j := 4) rfl ?_
    exact X_iret C Z rfl dX7_clear_73 h
  · replace h := h.2 c
    refine X_iload C dX7_clear_42 (j := 4) rfl ?_
    refine X_aload_n C dX7_clear_44 rfl (j := 0) rfl ?_
    refine X_iload_n C dX7_clear_45 rfl (j := 1) rfl ?_
    refine X_iload_n C dX7_clear_46 rfl (j := 2) rfl ?_
    refine X_iload C dX7_clear_47 (j := 5) rfl ?_
    refine X_callV C dX7_clear_49 pw_RX7_153 (b := 7) (as := [.int x1, .int x2, .int x5]) (S := [.int x4]) sh_7 rfl rfl rfl (Nat.le_of_ble_eq_true rfl) (Ct_mono h ?_)
    rintro _ s1 ⟨v2, rfl, h⟩
    show X κ 52 [(0, .ref 7), (1, .int x1), (2, .int x2), (3, .int x3), (4, .int x4), (5, .int x5)] [.int v2, .int x4] s1
    refine X_iload C dX7_clear_52 (j := 5) rfl ?_
    refine X_icmp_ne C dX7_clear_54 (tgt := 61) (by decide) (fun c => ?_) (fun c => ?_)
    · replace h := h.1 c
      refine X_iconst C (v := 0) (by decide) dX7_clear_61 ?_
      refine X_iadd C dX7_clear_62 ?_
      refine X_istore C dX7_clear_63 (by decide) (L' := [(4, .int (x4 + 0)), (0, .ref 7), (1, .int x1), (2, .int x2), (3, .int x3), (5, .int x5)]) rfl ?_
      refine X_iinc C dX7_clear_65 (j := 5) rfl (v := x5 + 1) rfl (by decide) (L' := [(5, .int (x5 + 1)), (4, .int (x4 + 0)), (0, .ref 7), (1, .int x1), (2, .int x2), (3, .int x3)]) rfl ?_
      refine X_goto C dX7_clear_68 (tgt := 36) (by decide) ?_
      refine X_loc [2, 3, 4, 5, 1, 0] rfl ?_
      exact h
    · replace h := h.2 c
      refine X_iconst C (v := 1) (by decide) dX7_clear_57 ?_
      refine X_goto C dX7_clear_58 (tgt := 62) (by decide) ?_
      refine X_iadd C dX7_clear_62 ?_
      refine X_istore C dX7_clear_63 (by decide) (L' := [(4, .int (x4 + 1)), (0, .ref 7), (1, .int x1), (2, .int x2), (3, .int x3), (5, .int x5)]) rfl ?_
      refine X_iinc C dX7_clear_65 (j := 5) rfl (v := x5 + 1) rfl (by decide) (L' := [(5, .int (x5 + 1)), (4, .int (x4 + 1)), (0, .ref 7), (1, .int x1), (2, .int x2), (3, .int x3)]) rfl ?_
      refine X_goto C dX7_clear_68 (tgt := 36) (by decide) ?_
      refine X_loc [2, 3, 4, 5, 1, 0] rfl ?_
      exact h
set_option maxHeartbeats 4000000 in
set_option maxRecDepth 100000 in
theorem eX7_clear {d : Nat} {Q : Option Value → xSt → Prop} (a1 : Int32) (a2 : Int32) (a3 : Int32) (st : xSt) (h : ∀ κ : xK, Cx κ M_X7_clear (d + 1) → xR κ Q → Ct d M_X7_isCount [.ref 7, .int a1] st (Qi fun v2 s1 => ((v2 = 0 → Q (some (.int ((-2)))) s1) ∧ (¬ v2 = 0 → Ct d M_X7_isCount [.ref 7, .int a2] s1 (Qi fun v4 s3 => ((v4 = 0 → Q (some (.int ((-2)))) s3) ∧ (¬ v4 = 0 → Ct d M_X7_in [.int a3, .int 1, .int 400] s3 (Qi fun v6 s5 => ((¬ v6 = 0 → X κ 36 [(0, .ref 7), (1, .int a1), (2, .int a2), (3, .int a3), (4, .int 0), (5, .int 1)] [] s5) ∧ (v6 = 0 → Q (some (.int ((-2)))) s5)))))))))) : Ct (d + 1) M_X7_clear [.ref 7, .int a1, .int a2, .int a3] st Q := by
  refine Ct_of (by decide +kernel) (Nat.le_of_ble_eq_true rfl) (fun κ C Z => ?_)
  replace h := h κ C Z
  show X κ 0 [(0, .ref 7), (1, .int a1), (2, .int a2), (3, .int a3)] [] st
  refine X_aload_n C dX7_clear_0 rfl (j := 0) rfl ?_
  refine X_iload_n C dX7_clear_1 rfl (j := 1) rfl ?_
  refine X_callV C dX7_clear_2 pw_RX7_93 (b := 7) (as := [.int a1]) (S := []) sh_7 rfl rfl rfl (Nat.le_of_ble_eq_true rfl) (Ct_mono h ?_)
  rintro _ s1 ⟨v2, rfl, h⟩
  show X κ 5 [(0, .ref 7), (1, .int a1), (2, .int a2), (3, .int a3)] [.int v2] s1
  refine X_if_eq C dX7_clear_5 (tgt := 27) (by decide) (fun c => ?_) (fun c => ?_)
  · replace h := h.1 c
    refine X_bipush C (v := (-2)) (by decide) dX7_clear_27 ?_
    exact X_iret C Z rfl dX7_clear_29 h
  · replace h := h.2 c
    refine X_aload_n C dX7_clear_8 rfl (j := 0) rfl ?_
    refine X_iload_n C dX7_clear_9 rfl (j := 2) rfl ?_
    refine X_callV C dX7_clear_10 pw_RX7_93 (b := 7) (as := [.int a2]) (S := []) sh_7 rfl rfl rfl (Nat.le_of_ble_eq_true rfl) (Ct_mono h ?_)
    rintro _ s3 ⟨v4, rfl, h⟩
    show X κ 13 [(0, .ref 7), (1, .int a1), (2, .int a2), (3, .int a3)] [.int v4] s3
    refine X_if_eq C dX7_clear_13 (tgt := 27) (by decide) (fun c => ?_) (fun c => ?_)
    · replace h := h.1 c
      refine X_bipush C (v := (-2)) (by decide) dX7_clear_27 ?_
      exact X_iret C Z rfl dX7_clear_29 h
    · replace h := h.2 c
      refine X_iload_n C dX7_clear_16 rfl (j := 3) rfl ?_
      refine X_iconst C (v := 1) (by decide) dX7_clear_17 ?_
      refine X_sipush C (v := 400) (by decide) dX7_clear_18 ?_
      refine X_callS C dX7_clear_21 pw_RX7_75 (as := [.int a3, .int 1, .int 400]) (S := []) rfl rfl (Nat.le_of_ble_eq_true rfl) (Ct_mono h ?_)
      rintro _ s5 ⟨v6, rfl, h⟩
      show X κ 24 [(0, .ref 7), (1, .int a1), (2, .int a2), (3, .int a3)] [.int v6] s5
      refine X_if_ne C dX7_clear_24 (tgt := 30) (by decide) (fun c => ?_) (fun c => ?_)
      · replace h := h.1 c
        refine X_iconst C (v := 0) (by decide) dX7_clear_30 ?_
        refine X_istore C dX7_clear_31 (by decide) (L' := [(4, .int 0), (0, .ref 7), (1, .int a1), (2, .int a2), (3, .int a3)]) rfl ?_
        refine X_iconst C (v := 1) (by decide) dX7_clear_33 ?_
        refine X_istore C dX7_clear_34 (by decide) (L' := [(5, .int 1), (4, .int 0), (0, .ref 7), (1, .int a1), (2, .int a2), (3, .int a3)]) rfl ?_
        refine X_loc [2, 3, 4, 5, 1, 0] rfl ?_
        exact h
      · replace h := h.2 c
        refine X_bipush C (v := (-2)) (by decide) dX7_clear_27 ?_
        exact X_iret C Z rfl dX7_clear_29 h
set_option maxHeartbeats 4000000 in
set_option maxRecDepth 100000 in
theorem bX7_trap_21 {κ : xK} {d : Nat} {Q : Option Value → xSt → Prop} (C : Cx κ M_X7_trap (d + 1)) (Z : xR κ Q) (x1 : Int32) (x2 : Int32) (x3 : Int32) (st : xSt) (h : ((400 < x3 → Q (some (.int ((-1)))) st) ∧ (¬ 400 < x3 → Ct d M_X7_heardAs [.ref 7, .int x1, .int x2, .int x3] st (Qi fun v2 s1 => ((v2 = x3 → X κ 21 [(0, .ref 7), (1, .int x1), (2, .int x2), (3, .int (x3 + 1))] [] s1) ∧ (¬ v2 = x3 → ((v2 = ((-1)) → X κ 21 [(0, .ref 7), (1, .int x1), (2, .int x2), (3, .int (x3 + 1))] [] s1) ∧ (¬ v2 = ((-1)) → Q (some (.int x3)) s1)))))))) : X κ 21 [(0, .ref 7), (1, .int x1), (2, .int x2), (3, .int x3)] [] st := by
  refine X_iload_n C dX7_trap_21 rfl (j := 3) rfl ?_
  refine X_sipush C (v := 400) (by decide) dX7_trap_22 ?_
  refine X_icmp_gt C dX7_trap_25 (tgt := 57) (by decide) (fun c => ?_) (fun c => ?_)
  · replace h := h.1 c
    refine X_iconst C (v := (-1)) (by decide) dX7_trap_57 ?_
    exact X_iret C Z rfl dX7_trap_58 h
  · replace h := h.2 c
    refine X_aload_n C dX7_trap_28 rfl (j := 0) rfl ?_
    refine X_iload_n C dX7_trap_29 rfl (j := 1) rfl ?_
    refine X_iload_n C dX7_trap_30 rfl (j := 2) rfl ?_
    refine X_iload_n C dX7_trap_31 rfl (j := 3) rfl ?_
    refine X_callV C dX7_trap_32 pw_RX7_153 (b := 7) (as := [.int x1, .int x2, .int x3]) (S := []) sh_7 rfl rfl rfl (Nat.le_of_ble_eq_true rfl) (Ct_mono h ?_)
    rintro _ s1 ⟨v2, rfl, h⟩
    show X κ 35 [(0, .ref 7), (1, .int x1), (2, .int x2), (3, .int x3)] [.int v2] s1
    refine X_istore C dX7_trap_35 (by decide) (L' := [(4, .int v2), (0, .ref 7), (1, .int x1), (2, .int x2), (3, .int x3)]) rfl ?_
    refine X_iload C dX7_trap_37 (j := 0) rfl ?_
    refine X_iload_n C dX7_trap_39 rfl (j := 4) rfl ?_
    refine X_icmp_eq C dX7_trap_40 (tgt := 51) (by decide) (fun c => ?_) (fun c => ?_)
    · replace h := h.1 c
      refine X_iinc C dX7_trap_51 (j := 4) rfl (v := x3 + 1) rfl (by decide) (L' := [(3, .int (x3 + 1)), (4, .int v2), (0, .ref 7), (1, .int x1), (2, .int x2)]) rfl ?_
      refine X_goto C dX7_trap_54 (tgt := 21) (by decide) ?_
      refine X_loc [2, 3, 4, 0] rfl ?_
      exact h
    · replace h := h.2 c
      refine X_iload C dX7_trap_43 (j := 0) rfl ?_
      refine X_iconst C (v := (-1)) (by decide) dX7_trap_45 ?_
      refine X_icmp_eq C dX7_trap_46 (tgt := 51) (by decide) (fun c => ?_) (fun c => ?_)
      · replace h := h.1 c
        refine X_iinc C dX7_trap_51 (j := 4) rfl (v := x3 + 1) rfl (by decide) (L' := [(3, .int (x3 + 1)), (4, .int v2), (0, .ref 7), (1, .int x1), (2, .int x2)]) rfl ?_
        refine X_goto C dX7_trap_54 (tgt := 21) (by decide) ?_
        refine X_loc [2, 3, 4, 0] rfl ?_
        exact h
      · replace h := h.2 c
        refine X_iload_n C dX7_trap_49 rfl (j := 4) rfl ?_
        exact X_iret C Z rfl dX7_trap_50 h
set_option maxHeartbeats 4000000 in
set_option maxRecDepth 100000 in
theorem eX7_trap {d : Nat} {Q : Option Value → xSt → Prop} (a1 : Int32) (a2 : Int32) (st : xSt) (h : ∀ κ : xK, Cx κ M_X7_trap (d + 1) → xR κ Q → Ct d M_X7_isCount [.ref 7, .int a1] st (Qi fun v2 s1 => ((v2 = 0 → Q (some (.int ((-2)))) s1) ∧ (¬ v2 = 0 → Ct d M_X7_isCount [.ref 7, .int a2] s1 (Qi fun v4 s3 => ((¬ v4 = 0 → X κ 21 [(0, .ref 7), (1, .int a1), (2, .int a2), (3, .int 1)] [] s3) ∧ (v4 = 0 → Q (some (.int ((-2)))) s3))))))) : Ct (d + 1) M_X7_trap [.ref 7, .int a1, .int a2] st Q := by
  refine Ct_of (by decide +kernel) (Nat.le_of_ble_eq_true rfl) (fun κ C Z => ?_)
  replace h := h κ C Z
  show X κ 0 [(0, .ref 7), (1, .int a1), (2, .int a2)] [] st
  refine X_aload_n C dX7_trap_0 rfl (j := 0) rfl ?_
  refine X_iload_n C dX7_trap_1 rfl (j := 1) rfl ?_
  refine X_callV C dX7_trap_2 pw_RX7_93 (b := 7) (as := [.int a1]) (S := []) sh_7 rfl rfl rfl (Nat.le_of_ble_eq_true rfl) (Ct_mono h ?_)
  rintro _ s1 ⟨v2, rfl, h⟩
  show X κ 5 [(0, .ref 7), (1, .int a1), (2, .int a2)] [.int v2] s1
  refine X_if_eq C dX7_trap_5 (tgt := 16) (by decide) (fun c => ?_) (fun c => ?_)
  · replace h := h.1 c
    refine X_bipush C (v := (-2)) (by decide) dX7_trap_16 ?_
    exact X_iret C Z rfl dX7_trap_18 h
  · replace h := h.2 c
    refine X_aload_n C dX7_trap_8 rfl (j := 0) rfl ?_
    refine X_iload_n C dX7_trap_9 rfl (j := 2) rfl ?_
    refine X_callV C dX7_trap_10 pw_RX7_93 (b := 7) (as := [.int a2]) (S := []) sh_7 rfl rfl rfl (Nat.le_of_ble_eq_true rfl) (Ct_mono h ?_)
    rintro _ s3 ⟨v4, rfl, h⟩
    show X κ 13 [(0, .ref 7), (1, .int a1), (2, .int a2)] [.int v4] s3
    refine X_if_ne C dX7_trap_13 (tgt := 19) (by decide) (fun c => ?_) (fun c => ?_)
    · replace h := h.1 c
      refine X_iconst C (v := 1) (by decide) dX7_trap_19 ?_
      refine X_istore_n C dX7_trap_20 rfl (by decide) (L' := [(3, .int 1), (0, .ref 7), (1, .int a1), (2, .int a2)]) rfl ?_
      refine X_loc [1, 2, 3, 0] rfl ?_
      exact h
    · replace h := h.2 c
      refine X_bipush C (v := (-2)) (by decide) dX7_trap_16 ?_
      exact X_iret C Z rfl dX7_trap_18 h
set_option maxHeartbeats 4000000 in
set_option maxRecDepth 100000 in
theorem eX7_isPerson {d : Nat} {Q : Option Value → xSt → Prop} (a1 : Int32) (st : xSt) (h : Ct d M_X7_in [.int a1, .int 0, .int ((st.1 7 10) - 1)] st (Qi fun v2 s1 => (v2 = 0 ∨ v2 = 1) ∧ Q (some (.int v2)) s1)) : Ct (d + 1) M_X7_isPerson [.ref 7, .int a1] st Q := by
  refine Ct_of (by decide +kernel) (Nat.le_of_ble_eq_true rfl) (fun κ C Z => ?_)
  show X κ 0 [(0, .ref 7), (1, .int a1)] [] st
  refine X_iload_n C dX7_isPerson_0 rfl (j := 1) rfl ?_
  refine X_iconst C (v := 0) (by decide) dX7_isPerson_1 ?_
  refine X_aload_n C dX7_isPerson_2 rfl (j := 0) rfl ?_
  refine X_getI C sh_7 rfl fw_RX7_157 dX7_isPerson_3 ?_
  refine X_iconst C (v := 1) (by decide) dX7_isPerson_6 ?_
  refine X_isub C dX7_isPerson_7 ?_
  refine X_callS C dX7_isPerson_8 pw_RX7_75 (as := [.int a1, .int 0, .int ((st.1 7 10) - 1)]) (S := []) rfl rfl (Nat.le_of_ble_eq_true rfl) (Ct_mono h ?_)
  rintro _ s1 ⟨v2, rfl, h⟩
  show X κ 11 [(0, .ref 7), (1, .int a1)] [.int v2] s1
  exact X_zret C Z rfl h.1 dX7_isPerson_11 h.2
set_option maxHeartbeats 4000000 in
set_option maxRecDepth 100000 in
theorem eX7_person {d : Nat} {Q : Option Value → xSt → Prop} (a1 : Int32) (st : xSt) (h : Ct d M_X7_isCount [.ref 7, .int a1] st (Qi fun v2 s1 => ((¬ v2 = 0 → ((¬ (s1.1 7 10) = 8 → vp_in (s1.1 7 10) 8 ∧ Q (some (.int (((xup (xup s1 35 (s1.1 7 10 : Int32).toNatClampNeg a1) 7 10 (((xup s1 35 (s1.1 7 10 : Int32).toNatClampNeg a1).1 7 10) + 1)).1 7 10) - 1))) (xup (xup s1 35 (s1.1 7 10 : Int32).toNatClampNeg a1) 7 10 (((xup s1 35 (s1.1 7 10 : Int32).toNatClampNeg a1).1 7 10) + 1))) ∧ ((s1.1 7 10) = 8 → Q (some (.int ((-4)))) s1))) ∧ (v2 = 0 → Q (some (.int ((-2)))) s1)))) : Ct (d + 1) M_X7_person [.ref 7, .int a1] st Q := by
  refine Ct_of (by decide +kernel) (Nat.le_of_ble_eq_true rfl) (fun κ C Z => ?_)
  show X κ 0 [(0, .ref 7), (1, .int a1)] [] st
  refine X_aload_n C dX7_person_0 rfl (j := 0) rfl ?_
  refine X_iload_n C dX7_person_1 rfl (j := 1) rfl ?_
  refine X_callV C dX7_person_2 pw_RX7_93 (b := 7) (as := [.int a1]) (S := []) sh_7 rfl rfl rfl (Nat.le_of_ble_eq_true rfl) (Ct_mono h ?_)
  rintro _ s1 ⟨v2, rfl, h⟩
  show X κ 5 [(0, .ref 7), (1, .int a1)] [.int v2] s1
  refine X_if_ne C dX7_person_5 (tgt := 11) (by decide) (fun c => ?_) (fun c => ?_)
  · replace h := h.1 c
    refine X_aload_n C dX7_person_11 rfl (j := 0) rfl ?_
    refine X_getI C sh_7 rfl fw_RX7_157 dX7_person_12 ?_
    refine X_bipush C (v := 8) (by decide) dX7_person_15 ?_
    refine X_icmp_ne C dX7_person_17 (tgt := 23) (by decide) (fun c => ?_) (fun c => ?_)
    · replace h := h.1 c
      refine X_aload_n C dX7_person_23 rfl (j := 0) rfl ?_
      refine X_getR C sh_7 rfl fw_RX7_36 dX7_person_24 ?_
      refine X_aload_n C dX7_person_27 rfl (j := 0) rfl ?_
      refine X_getI C sh_7 rfl fw_RX7_157 dX7_person_28 ?_
      refine X_iload_n C dX7_person_31 rfl (j := 1) rfl ?_
      obtain ⟨g3, h⟩ := h
      refine X_iast C sh_35 g3 dX7_person_32 ?_
      refine X_aload_n C dX7_person_33 rfl (j := 0) rfl ?_
      refine X_dup C rfl dX7_person_34 ?_
      refine X_getI C sh_7 rfl fw_RX7_157 dX7_person_35 ?_
      refine X_iconst C (v := 1) (by decide) dX7_person_38 ?_
      refine X_iadd C dX7_person_39 ?_
      refine X_putI C sh_7 rfl fp_RX7_157 dX7_person_40 ?_
      refine X_aload_n C dX7_person_43 rfl (j := 0) rfl ?_
      refine X_getI C sh_7 rfl fw_RX7_157 dX7_person_44 ?_
      refine X_iconst C (v := 1) (by decide) dX7_person_47 ?_
      refine X_isub C dX7_person_48 ?_
      exact X_iret C Z rfl dX7_person_49 h
    · replace h := h.2 c
      refine X_bipush C (v := (-4)) (by decide) dX7_person_20 ?_
      exact X_iret C Z rfl dX7_person_22 h
  · replace h := h.2 c
    refine X_bipush C (v := (-2)) (by decide) dX7_person_8 ?_
    exact X_iret C Z rfl dX7_person_10 h
set_option maxHeartbeats 4000000 in
set_option maxRecDepth 100000 in
theorem eX7_owedBy {d : Nat} {Q : Option Value → xSt → Prop} (a1 : Int32) (a2 : Int32) (st : xSt) (h : vp_in ((8 * a1) + a2) 64 ∧ (((st.1 36 ((8 * a1) + a2 : Int32).toNatClampNeg) ≤ 0 → Q (some (.int 0)) st) ∧ (¬ (st.1 36 ((8 * a1) + a2 : Int32).toNatClampNeg) ≤ 0 → vp_in ((8 * a1) + a2) 64 ∧ Q (some (.int (st.1 36 ((8 * a1) + a2 : Int32).toNatClampNeg))) st))) : Ct (d) M_X7_owedBy [.ref 7, .int a1, .int a2] st Q := by
  refine Ct_of (by decide +kernel) (Nat.le_of_ble_eq_true rfl) (fun κ C Z => ?_)
  show X κ 0 [(0, .ref 7), (1, .int a1), (2, .int a2)] [] st
  refine X_aload_n C dX7_owedBy_0 rfl (j := 0) rfl ?_
  refine X_getR C sh_7 rfl fw_RX7_39 dX7_owedBy_1 ?_
  refine X_bipush C (v := 8) (by decide) dX7_owedBy_4 ?_
  refine X_iload_n C dX7_owedBy_6 rfl (j := 1) rfl ?_
  refine X_imul C dX7_owedBy_7 ?_
  refine X_iload_n C dX7_owedBy_8 rfl (j := 2) rfl ?_
  refine X_iadd C dX7_owedBy_9 ?_
  obtain ⟨g1, h⟩ := h
  refine X_iald C sh_36 g1 dX7_owedBy_10 ?_
  refine X_if_le C dX7_owedBy_11 (tgt := 28) (by decide) (fun c => ?_) (fun c => ?_)
  · replace h := h.1 c
    refine X_iconst C (v := 0) (by decide) dX7_owedBy_28 ?_
    exact X_iret C Z rfl dX7_owedBy_29 h
  · replace h := h.2 c
    refine X_aload_n C dX7_owedBy_14 rfl (j := 0) rfl ?_
    refine X_getR C sh_7 rfl fw_RX7_39 dX7_owedBy_15 ?_
    refine X_bipush C (v := 8) (by decide) dX7_owedBy_18 ?_
    refine X_iload_n C dX7_owedBy_20 rfl (j := 1) rfl ?_
    refine X_imul C dX7_owedBy_21 ?_
    refine X_iload_n C dX7_owedBy_22 rfl (j := 2) rfl ?_
    refine X_iadd C dX7_owedBy_23 ?_
    obtain ⟨g2, h⟩ := h
    refine X_iald C sh_36 g2 dX7_owedBy_24 ?_
    refine X_goto C dX7_owedBy_25 (tgt := 29) (by decide) ?_
    exact X_iret C Z rfl dX7_owedBy_29 h
set_option maxHeartbeats 4000000 in
set_option maxRecDepth 100000 in
theorem eX7_owe {d : Nat} {Q : Option Value → xSt → Prop} (a1 : Int32) (a2 : Int32) (a3 : Int32) (st : xSt) (h : vp_in ((8 * a1) + a2) 64 ∧ vp_in ((8 * a1) + a2) 64 ∧ vp_in ((8 * a2) + a1) 64 ∧ vp_in ((8 * a2) + a1) 64 ∧ Q none (xup (xup st 36 ((8 * a1) + a2 : Int32).toNatClampNeg ((st.1 36 ((8 * a1) + a2 : Int32).toNatClampNeg) + a3)) 36 ((8 * a2) + a1 : Int32).toNatClampNeg (((xup st 36 ((8 * a1) + a2 : Int32).toNatClampNeg ((st.1 36 ((8 * a1) + a2 : Int32).toNatClampNeg) + a3)).1 36 ((8 * a2) + a1 : Int32).toNatClampNeg) - a3))) : Ct (d) M_X7_owe [.ref 7, .int a1, .int a2, .int a3] st Q := by
  refine Ct_of (by decide +kernel) (Nat.le_of_ble_eq_true rfl) (fun κ C Z => ?_)
  show X κ 0 [(0, .ref 7), (1, .int a1), (2, .int a2), (3, .int a3)] [] st
  refine X_aload_n C dX7_owe_0 rfl (j := 0) rfl ?_
  refine X_getR C sh_7 rfl fw_RX7_39 dX7_owe_1 ?_
  refine X_bipush C (v := 8) (by decide) dX7_owe_4 ?_
  refine X_iload_n C dX7_owe_6 rfl (j := 1) rfl ?_
  refine X_imul C dX7_owe_7 ?_
  refine X_iload_n C dX7_owe_8 rfl (j := 2) rfl ?_
  refine X_iadd C dX7_owe_9 ?_
  refine X_dup2 C rfl rfl dX7_owe_10 ?_
  obtain ⟨g1, h⟩ := h
  refine X_iald C sh_36 g1 dX7_owe_11 ?_
  refine X_iload_n C dX7_owe_12 rfl (j := 3) rfl ?_
  refine X_iadd C dX7_owe_13 ?_
  obtain ⟨g2, h⟩ := h
  refine X_iast C sh_36 g2 dX7_owe_14 ?_
  refine X_aload_n C dX7_owe_15 rfl (j := 0) rfl ?_
  refine X_getR C sh_7 rfl fw_RX7_39 dX7_owe_16 ?_
  refine X_bipush C (v := 8) (by decide) dX7_owe_19 ?_
  refine X_iload_n C dX7_owe_21 rfl (j := 2) rfl ?_
  refine X_imul C dX7_owe_22 ?_
  refine X_iload_n C dX7_owe_23 rfl (j := 1) rfl ?_
  refine X_iadd C dX7_owe_24 ?_
  refine X_dup2 C rfl rfl dX7_owe_25 ?_
  obtain ⟨g3, h⟩ := h
  refine X_iald C sh_36 g3 dX7_owe_26 ?_
  refine X_iload_n C dX7_owe_27 rfl (j := 3) rfl ?_
  refine X_isub C dX7_owe_28 ?_
  obtain ⟨g4, h⟩ := h
  refine X_iast C sh_36 g4 dX7_owe_29 ?_
  exact X_vret C Z rfl dX7_owe_30 h
set_option maxHeartbeats 4000000 in
set_option maxRecDepth 100000 in
theorem eX7_gift {d : Nat} {Q : Option Value → xSt → Prop} (a1 : Int32) (a2 : Int32) (a3 : Int32) (st : xSt) (h : Ct d M_X7_isPerson [.ref 7, .int a1] st (Qi fun v2 s1 => ((v2 = 0 → Q (some (.int ((-2)))) s1) ∧ (¬ v2 = 0 → Ct d M_X7_isPerson [.ref 7, .int a2] s1 (Qi fun v4 s3 => ((v4 = 0 → Q (some (.int ((-2)))) s3) ∧ (¬ v4 = 0 → ((a1 = a2 → Q (some (.int ((-2)))) s3) ∧ (¬ a1 = a2 → Ct d M_X7_in [.int a3, .int 1, .int 400] s3 (Qi fun v6 s5 => ((¬ v6 = 0 → vp_in ((8 * a2) + a1) 64 ∧ ((((s5.1 36 ((8 * a2) + a1 : Int32).toNatClampNeg) + a3) ≤ 400 → Ct d M_X7_owe [.ref 7, .int a2, .int a1, .int a3] s5 (Qv fun s8 => Ct d M_X7_owedBy [.ref 7, .int a2, .int a1] s8 (Qi fun v10 s9 => Q (some (.int v10)) s9))) ∧ (¬ ((s5.1 36 ((8 * a2) + a1 : Int32).toNatClampNeg) + a3) ≤ 400 → Q (some (.int ((-3)))) s5))) ∧ (v6 = 0 → Q (some (.int ((-2)))) s5)))))))))))) : Ct (d + 1) M_X7_gift [.ref 7, .int a1, .int a2, .int a3] st Q := by
  refine Ct_of (by decide +kernel) (Nat.le_of_ble_eq_true rfl) (fun κ C Z => ?_)
  show X κ 0 [(0, .ref 7), (1, .int a1), (2, .int a2), (3, .int a3)] [] st
  refine X_aload_n C dX7_gift_0 rfl (j := 0) rfl ?_
  refine X_iload_n C dX7_gift_1 rfl (j := 1) rfl ?_
  refine X_callV C dX7_gift_2 pw_RX7_160 (b := 7) (as := [.int a1]) (S := []) sh_7 rfl rfl rfl (Nat.le_of_ble_eq_true rfl) (Ct_mono h ?_)
  rintro _ s1 ⟨v2, rfl, h⟩
  show X κ 5 [(0, .ref 7), (1, .int a1), (2, .int a2), (3, .int a3)] [.int v2] s1
  refine X_if_eq C dX7_gift_5 (tgt := 32) (by decide) (fun c => ?_) (fun c => ?_)
  · replace h := h.1 c
    refine X_bipush C (v := (-2)) (by decide) dX7_gift_32 ?_
    exact X_iret C Z rfl dX7_gift_34 h
  · replace h := h.2 c
    refine X_aload_n C dX7_gift_8 rfl (j := 0) rfl ?_
    refine X_iload_n C dX7_gift_9 rfl (j := 2) rfl ?_
    refine X_callV C dX7_gift_10 pw_RX7_160 (b := 7) (as := [.int a2]) (S := []) sh_7 rfl rfl rfl (Nat.le_of_ble_eq_true rfl) (Ct_mono h ?_)
    rintro _ s3 ⟨v4, rfl, h⟩
    show X κ 13 [(0, .ref 7), (1, .int a1), (2, .int a2), (3, .int a3)] [.int v4] s3
    refine X_if_eq C dX7_gift_13 (tgt := 32) (by decide) (fun c => ?_) (fun c => ?_)
    · replace h := h.1 c
      refine X_bipush C (v := (-2)) (by decide) dX7_gift_32 ?_
      exact X_iret C Z rfl dX7_gift_34 h
    · replace h := h.2 c
      refine X_iload_n C dX7_gift_16 rfl (j := 1) rfl ?_
      refine X_iload_n C dX7_gift_17 rfl (j := 2) rfl ?_
      refine X_icmp_eq C dX7_gift_18 (tgt := 32) (by decide) (fun c => ?_) (fun c => ?_)
      · replace h := h.1 c
        refine X_bipush C (v := (-2)) (by decide) dX7_gift_32 ?_
        exact X_iret C Z rfl dX7_gift_34 h
      · replace h := h.2 c
        refine X_iload_n C dX7_gift_21 rfl (j := 3) rfl ?_
        refine X_iconst C (v := 1) (by decide) dX7_gift_22 ?_
        refine X_sipush C (v := 400) (by decide) dX7_gift_23 ?_
        refine X_callS C dX7_gift_26 pw_RX7_75 (as := [.int a3, .int 1, .int 400]) (S := []) rfl rfl (Nat.le_of_ble_eq_true rfl) (Ct_mono h ?_)
        rintro _ s5 ⟨v6, rfl, h⟩
        show X κ 29 [(0, .ref 7), (1, .int a1), (2, .int a2), (3, .int a3)] [.int v6] s5
        refine X_if_ne C dX7_gift_29 (tgt := 35) (by decide) (fun c => ?_) (fun c => ?_)
        · replace h := h.1 c
          refine X_aload_n C dX7_gift_35 rfl (j := 0) rfl ?_
          refine X_getR C sh_7 rfl fw_RX7_39 dX7_gift_36 ?_
          refine X_bipush C (v := 8) (by decide) dX7_gift_39 ?_
          refine X_iload_n C dX7_gift_41 rfl (j := 2) rfl ?_
          refine X_imul C dX7_gift_42 ?_
          refine X_iload_n C dX7_gift_43 rfl (j := 1) rfl ?_
          refine X_iadd C dX7_gift_44 ?_
          obtain ⟨g7, h⟩ := h
          refine X_iald C sh_36 g7 dX7_gift_45 ?_
          refine X_iload_n C dX7_gift_46 rfl (j := 3) rfl ?_
          refine X_iadd C dX7_gift_47 ?_
          refine X_sipush C (v := 400) (by decide) dX7_gift_48 ?_
          refine X_icmp_le C dX7_gift_51 (tgt := 57) (by decide) (fun c => ?_) (fun c => ?_)
          · replace h := h.1 c
            refine X_aload_n C dX7_gift_57 rfl (j := 0) rfl ?_
            refine X_iload_n C dX7_gift_58 rfl (j := 2) rfl ?_
            refine X_iload_n C dX7_gift_59 rfl (j := 1) rfl ?_
            refine X_iload_n C dX7_gift_60 rfl (j := 3) rfl ?_
            refine X_callV C dX7_gift_61 pw_RX7_163 (b := 7) (as := [.int a2, .int a1, .int a3]) (S := []) sh_7 rfl rfl rfl (Nat.le_of_ble_eq_true rfl) (Ct_mono h ?_)
            rintro _ s8 ⟨rfl, h⟩
            show X κ 64 [(0, .ref 7), (1, .int a1), (2, .int a2), (3, .int a3)] [] s8
            refine X_aload_n C dX7_gift_64 rfl (j := 0) rfl ?_
            refine X_iload_n C dX7_gift_65 rfl (j := 2) rfl ?_
            refine X_iload_n C dX7_gift_66 rfl (j := 1) rfl ?_
            refine X_callV C dX7_gift_67 pw_RX7_167 (b := 7) (as := [.int a2, .int a1]) (S := []) sh_7 rfl rfl rfl (Nat.le_of_ble_eq_true rfl) (Ct_mono h ?_)
            rintro _ s9 ⟨v10, rfl, h⟩
            show X κ 70 [(0, .ref 7), (1, .int a1), (2, .int a2), (3, .int a3)] [.int v10] s9
            exact X_iret C Z rfl dX7_gift_70 h
          · replace h := h.2 c
            refine X_bipush C (v := (-3)) (by decide) dX7_gift_54 ?_
            exact X_iret C Z rfl dX7_gift_56 h
        · replace h := h.2 c
          refine X_bipush C (v := (-2)) (by decide) dX7_gift_32 ?_
          exact X_iret C Z rfl dX7_gift_34 h
set_option maxHeartbeats 4000000 in
set_option maxRecDepth 100000 in
theorem eX7_owed {d : Nat} {Q : Option Value → xSt → Prop} (a1 : Int32) (a2 : Int32) (st : xSt) (h : Ct d M_X7_isPerson [.ref 7, .int a1] st (Qi fun v2 s1 => ((v2 = 0 → Q (some (.int ((-2)))) s1) ∧ (¬ v2 = 0 → Ct d M_X7_isPerson [.ref 7, .int a2] s1 (Qi fun v4 s3 => ((v4 = 0 → Q (some (.int ((-2)))) s3) ∧ (¬ v4 = 0 → ((a1 = a2 → Q (some (.int ((-2)))) s3) ∧ (¬ a1 = a2 → Ct d M_X7_owedBy [.ref 7, .int a1, .int a2] s3 (Qi fun v6 s5 => Q (some (.int v6)) s5)))))))))) : Ct (d + 1) M_X7_owed [.ref 7, .int a1, .int a2] st Q := by
  refine Ct_of (by decide +kernel) (Nat.le_of_ble_eq_true rfl) (fun κ C Z => ?_)
  show X κ 0 [(0, .ref 7), (1, .int a1), (2, .int a2)] [] st
  refine X_aload_n C dX7_owed_0 rfl (j := 0) rfl ?_
  refine X_iload_n C dX7_owed_1 rfl (j := 1) rfl ?_
  refine X_callV C dX7_owed_2 pw_RX7_160 (b := 7) (as := [.int a1]) (S := []) sh_7 rfl rfl rfl (Nat.le_of_ble_eq_true rfl) (Ct_mono h ?_)
  rintro _ s1 ⟨v2, rfl, h⟩
  show X κ 5 [(0, .ref 7), (1, .int a1), (2, .int a2)] [.int v2] s1
  refine X_if_eq C dX7_owed_5 (tgt := 30) (by decide) (fun c => ?_) (fun c => ?_)
  · replace h := h.1 c
    refine X_bipush C (v := (-2)) (by decide) dX7_owed_30 ?_
    exact X_iret C Z rfl dX7_owed_32 h
  · replace h := h.2 c
    refine X_aload_n C dX7_owed_8 rfl (j := 0) rfl ?_
    refine X_iload_n C dX7_owed_9 rfl (j := 2) rfl ?_
    refine X_callV C dX7_owed_10 pw_RX7_160 (b := 7) (as := [.int a2]) (S := []) sh_7 rfl rfl rfl (Nat.le_of_ble_eq_true rfl) (Ct_mono h ?_)
    rintro _ s3 ⟨v4, rfl, h⟩
    show X κ 13 [(0, .ref 7), (1, .int a1), (2, .int a2)] [.int v4] s3
    refine X_if_eq C dX7_owed_13 (tgt := 30) (by decide) (fun c => ?_) (fun c => ?_)
    · replace h := h.1 c
      refine X_bipush C (v := (-2)) (by decide) dX7_owed_30 ?_
      exact X_iret C Z rfl dX7_owed_32 h
    · replace h := h.2 c
      refine X_iload_n C dX7_owed_16 rfl (j := 1) rfl ?_
      refine X_iload_n C dX7_owed_17 rfl (j := 2) rfl ?_
      refine X_icmp_eq C dX7_owed_18 (tgt := 30) (by decide) (fun c => ?_) (fun c => ?_)
      · replace h := h.1 c
        refine X_bipush C (v := (-2)) (by decide) dX7_owed_30 ?_
        exact X_iret C Z rfl dX7_owed_32 h
      · replace h := h.2 c
        refine X_aload_n C dX7_owed_21 rfl (j := 0) rfl ?_
        refine X_iload_n C dX7_owed_22 rfl (j := 1) rfl ?_
        refine X_iload_n C dX7_owed_23 rfl (j := 2) rfl ?_
        refine X_callV C dX7_owed_24 pw_RX7_167 (b := 7) (as := [.int a1, .int a2]) (S := []) sh_7 rfl rfl rfl (Nat.le_of_ble_eq_true rfl) (Ct_mono h ?_)
        rintro _ s5 ⟨v6, rfl, h⟩
        show X κ 27 [(0, .ref 7), (1, .int a1), (2, .int a2)] [.int v6] s5
        refine X_goto C dX7_owed_27 (tgt := 32) (by decide) ?_
        exact X_iret C Z rfl dX7_owed_32 h
set_option maxHeartbeats 4000000 in
set_option maxRecDepth 100000 in
theorem eX7_told {d : Nat} {Q : Option Value → xSt → Prop} (a1 : Int32) (a2 : Int32) (st : xSt) (h : Ct d M_X7_isPerson [.ref 7, .int a1] st (Qi fun v2 s1 => ((v2 = 0 → Q (some (.int ((-2)))) s1) ∧ (¬ v2 = 0 → Ct d M_X7_isPerson [.ref 7, .int a2] s1 (Qi fun v4 s3 => ((v4 = 0 → Q (some (.int ((-2)))) s3) ∧ (¬ v4 = 0 → ((¬ a1 = a2 → Ct d M_X7_owedBy [.ref 7, .int a1, .int a2] s3 (Qi fun v6 s5 => ((¬ v6 = 0 → vp_in a2 8 ∧ Ct d M_X7_menOf [.ref 7, .int (s5.1 35 (a2 : Int32).toNatClampNeg), .int v6] s5 (Qi fun v9 s8 => vp_in a2 8 ∧ Ct d M_X7_placeOf [.ref 7, .int (s8.1 35 (a2 : Int32).toNatClampNeg), .int v6] s8 (Qi fun v12 s11 => Q (some (.int ((100 * v9) + v12))) s11))) ∧ (v6 = 0 → Q (some (.int 0)) s5)))) ∧ (a1 = a2 → Q (some (.int ((-2)))) s3))))))))) : Ct (d + 1) M_X7_told [.ref 7, .int a1, .int a2] st Q := by
  refine Ct_of (by decide +kernel) (Nat.le_of_ble_eq_true rfl) (fun κ C Z => ?_)
  show X κ 0 [(0, .ref 7), (1, .int a1), (2, .int a2)] [] st
  refine X_aload_n C dX7_told_0 rfl (j := 0) rfl ?_
  refine X_iload_n C dX7_told_1 rfl (j := 1) rfl ?_
  refine X_callV C dX7_told_2 pw_RX7_160 (b := 7) (as := [.int a1]) (S := []) sh_7 rfl rfl rfl (Nat.le_of_ble_eq_true rfl) (Ct_mono h ?_)
  rintro _ s1 ⟨v2, rfl, h⟩
  show X κ 5 [(0, .ref 7), (1, .int a1), (2, .int a2)] [.int v2] s1
  refine X_if_eq C dX7_told_5 (tgt := 21) (by decide) (fun c => ?_) (fun c => ?_)
  · replace h := h.1 c
    refine X_bipush C (v := (-2)) (by decide) dX7_told_21 ?_
    exact X_iret C Z rfl dX7_told_23 h
  · replace h := h.2 c
    refine X_aload_n C dX7_told_8 rfl (j := 0) rfl ?_
    refine X_iload_n C dX7_told_9 rfl (j := 2) rfl ?_
    refine X_callV C dX7_told_10 pw_RX7_160 (b := 7) (as := [.int a2]) (S := []) sh_7 rfl rfl rfl (Nat.le_of_ble_eq_true rfl) (Ct_mono h ?_)
    rintro _ s3 ⟨v4, rfl, h⟩
    show X κ 13 [(0, .ref 7), (1, .int a1), (2, .int a2)] [.int v4] s3
    refine X_if_eq C dX7_told_13 (tgt := 21) (by decide) (fun c => ?_) (fun c => ?_)
    · replace h := h.1 c
      refine X_bipush C (v := (-2)) (by decide) dX7_told_21 ?_
      exact X_iret C Z rfl dX7_told_23 h
    · replace h := h.2 c
      refine X_iload_n C dX7_told_16 rfl (j := 1) rfl ?_
      refine X_iload_n C dX7_told_17 rfl (j := 2) rfl ?_
      refine X_icmp_ne C dX7_told_18 (tgt := 24) (by decide) (fun c => ?_) (fun c => ?_)
      · replace h := h.1 c
        refine X_aload_n C dX7_told_24 rfl (j := 0) rfl ?_
        refine X_iload_n C dX7_told_25 rfl (j := 1) rfl ?_
        refine X_iload_n C dX7_told_26 rfl (j := 2) rfl ?_
        refine X_callV C dX7_told_27 pw_RX7_167 (b := 7) (as := [.int a1, .int a2]) (S := []) sh_7 rfl rfl rfl (Nat.le_of_ble_eq_true rfl) (Ct_mono h ?_)
        rintro _ s5 ⟨v6, rfl, h⟩
        show X κ 30 [(0, .ref 7), (1, .int a1), (2, .int a2)] [.int v6] s5
        refine X_istore_n C dX7_told_30 rfl (by decide) (L' := [(3, .int v6), (0, .ref 7), (1, .int a1), (2, .int a2)]) rfl ?_
        refine X_iload_n C dX7_told_31 rfl (j := 0) rfl ?_
        refine X_if_ne C dX7_told_32 (tgt := 39) (by decide) (fun c => ?_) (fun c => ?_)
        · replace h := h.1 c
          refine X_bipush C (v := 100) (by decide) dX7_told_39 ?_
          refine X_aload_n C dX7_told_41 rfl (j := 1) rfl ?_
          refine X_aload_n C dX7_told_42 rfl (j := 1) rfl ?_
          refine X_getR C sh_7 rfl fw_RX7_36 dX7_told_43 ?_
          refine X_iload_n C dX7_told_46 rfl (j := 3) rfl ?_
          obtain ⟨g7, h⟩ := h
          refine X_iald C sh_35 g7 dX7_told_47 ?_
          refine X_iload_n C dX7_told_48 rfl (j := 0) rfl ?_
          refine X_callV C dX7_told_49 pw_RX7_112 (b := 7) (as := [.int (s5.1 35 (a2 : Int32).toNatClampNeg), .int v6]) (S := [.int 100]) sh_7 rfl rfl rfl (Nat.le_of_ble_eq_true rfl) (Ct_mono h ?_)
          rintro _ s8 ⟨v9, rfl, h⟩
          show X κ 52 [(3, .int v6), (0, .ref 7), (1, .int a1), (2, .int a2)] [.int v9, .int 100] s8
          refine X_imul C dX7_told_52 ?_
          refine X_aload_n C dX7_told_53 rfl (j := 1) rfl ?_
          refine X_aload_n C dX7_told_54 rfl (j := 1) rfl ?_
          refine X_getR C sh_7 rfl fw_RX7_36 dX7_told_55 ?_
          refine X_iload_n C dX7_told_58 rfl (j := 3) rfl ?_
          obtain ⟨g10, h⟩ := h
          refine X_iald C sh_35 g10 dX7_told_59 ?_
          refine X_iload_n C dX7_told_60 rfl (j := 0) rfl ?_
          refine X_callV C dX7_told_61 pw_RX7_115 (b := 7) (as := [.int (s8.1 35 (a2 : Int32).toNatClampNeg), .int v6]) (S := [.int (100 * v9)]) sh_7 rfl rfl rfl (Nat.le_of_ble_eq_true rfl) (Ct_mono h ?_)
          rintro _ s11 ⟨v12, rfl, h⟩
          show X κ 64 [(3, .int v6), (0, .ref 7), (1, .int a1), (2, .int a2)] [.int v12, .int (100 * v9)] s11
          refine X_iadd C dX7_told_64 ?_
          exact X_iret C Z rfl dX7_told_65 h
        · replace h := h.2 c
          refine X_iconst C (v := 0) (by decide) dX7_told_35 ?_
          refine X_goto C dX7_told_36 (tgt := 65) (by decide) ?_
          exact X_iret C Z rfl dX7_told_65 h
      · replace h := h.2 c
        refine X_bipush C (v := (-2)) (by decide) dX7_told_21 ?_
        exact X_iret C Z rfl dX7_told_23 h
set_option maxHeartbeats 4000000 in
set_option maxRecDepth 100000 in
theorem bX7_finds_2 {κ : xK} {d : Nat} {Q : Option Value → xSt → Prop} (C : Cx κ M_X7_finds (d + 1)) (Z : xR κ Q) (x1 : Int32) (st : xSt) (h : (((st.1 7 10) < x1 → Q (some (.int 0)) st) ∧ (¬ (st.1 7 10) < x1 → Ct d M_X7_goesRound [.ref 7, .int x1] st (Qi fun v2 s1 => ((v2 = 0 → X κ 2 [(0, .ref 7), (1, .int (x1 + 1))] [] s1) ∧ (¬ v2 = 0 → Q (some (.int x1)) s1)))))) : X κ 2 [(0, .ref 7), (1, .int x1)] [] st := by
  refine X_iload_n C dX7_finds_2 rfl (j := 1) rfl ?_
  refine X_aload_n C dX7_finds_3 rfl (j := 0) rfl ?_
  refine X_getI C sh_7 rfl fw_RX7_157 dX7_finds_4 ?_
  refine X_icmp_gt C dX7_finds_7 (tgt := 26) (by decide) (fun c => ?_) (fun c => ?_)
  · replace h := h.1 c
    refine X_iconst C (v := 0) (by decide) dX7_finds_26 ?_
    exact X_iret C Z rfl dX7_finds_27 h
  · replace h := h.2 c
    refine X_aload_n C dX7_finds_10 rfl (j := 0) rfl ?_
    refine X_iload_n C dX7_finds_11 rfl (j := 1) rfl ?_
    refine X_callV C dX7_finds_12 pw_RX7_170 (b := 7) (as := [.int x1]) (S := []) sh_7 rfl rfl rfl (Nat.le_of_ble_eq_true rfl) (Ct_mono h ?_)
    rintro _ s1 ⟨v2, rfl, h⟩
    show X κ 15 [(0, .ref 7), (1, .int x1)] [.int v2] s1
    refine X_if_eq C dX7_finds_15 (tgt := 20) (by decide) (fun c => ?_) (fun c => ?_)
    · replace h := h.1 c
      refine X_iinc C dX7_finds_20 (j := 1) rfl (v := x1 + 1) rfl (by decide) (L' := [(1, .int (x1 + 1)), (0, .ref 7)]) rfl ?_
      refine X_goto C dX7_finds_23 (tgt := 2) (by decide) ?_
      refine X_loc [1, 0] rfl ?_
      exact h
    · replace h := h.2 c
      refine X_iload_n C dX7_finds_18 rfl (j := 1) rfl ?_
      exact X_iret C Z rfl dX7_finds_19 h
set_option maxHeartbeats 4000000 in
set_option maxRecDepth 100000 in
theorem eX7_finds {d : Nat} {Q : Option Value → xSt → Prop} (st : xSt) (h : ∀ κ : xK, Cx κ M_X7_finds (d + 1) → xR κ Q → X κ 2 [(0, .ref 7), (1, .int 3)] [] st) : Ct (d + 1) M_X7_finds [.ref 7] st Q := by
  refine Ct_of (by decide +kernel) (Nat.le_of_ble_eq_true rfl) (fun κ C Z => ?_)
  replace h := h κ C Z
  show X κ 0 [(0, .ref 7)] [] st
  refine X_iconst C (v := 3) (by decide) dX7_finds_0 ?_
  refine X_istore_n C dX7_finds_1 rfl (by decide) (L' := [(1, .int 3), (0, .ref 7)]) rfl ?_
  refine X_loc [1, 0] rfl ?_
  exact h
set_option maxHeartbeats 4000000 in
set_option maxRecDepth 100000 in
theorem bX7_goesRound_2 {κ : xK} {d : Nat} {Q : Option Value → xSt → Prop} (C : Cx κ M_X7_goesRound (d + 1)) (Z : xR κ Q) (x1 : Int32) (x2 : Int32) (st : xSt) (h : ((x1 ≤ x2 → X κ 22 [(0, .ref 7), (1, .int x1), (2, .int 0)] [] st) ∧ (¬ x1 ≤ x2 → vp_in x2 8 ∧ X κ 2 [(0, .ref 7), (1, .int x1), (2, .int (x2 + 1))] [] (xup st 37 (x2 : Int32).toNatClampNeg ((-1)))))) : X κ 2 [(0, .ref 7), (1, .int x1), (2, .int x2)] [] st := by
  refine X_iload_n C dX7_goesRound_2 rfl (j := 2) rfl ?_
  refine X_iload_n C dX7_goesRound_3 rfl (j := 1) rfl ?_
  refine X_icmp_ge C dX7_goesRound_4 (tgt := 20) (by decide) (fun c => ?_) (fun c => ?_)
  · replace h := h.1 c
    refine X_iconst C (v := 0) (by decide) dX7_goesRound_20 ?_
    refine X_istore_n C dX7_goesRound_21 rfl (by decide) (L' := [(2, .int 0), (0, .ref 7), (1, .int x1)]) rfl ?_
    refine X_loc [1, 2, 0] rfl ?_
    exact h
  · replace h := h.2 c
    refine X_aload_n C dX7_goesRound_7 rfl (j := 0) rfl ?_
    refine X_getR C sh_7 rfl fw_RX7_42 dX7_goesRound_8 ?_
    refine X_iload_n C dX7_goesRound_11 rfl (j := 2) rfl ?_
    refine X_iconst C (v := (-1)) (by decide) dX7_goesRound_12 ?_
    obtain ⟨g1, h⟩ := h
    refine X_iast C sh_37 g1 dX7_goesRound_13 ?_
    refine X_iinc C dX7_goesRound_14 (j := 2) rfl (v := x2 + 1) rfl (by decide) (L' := [(2, .int (x2 + 1)), (0, .ref 7), (1, .int x1)]) rfl ?_
    refine X_goto C dX7_goesRound_17 (tgt := 2) (by decide) ?_
    refine X_loc [1, 2, 0] rfl ?_
    exact h
set_option maxHeartbeats 4000000 in
set_option maxRecDepth 100000 in
theorem bX7_goesRound_22 {κ : xK} {d : Nat} {Q : Option Value → xSt → Prop} (C : Cx κ M_X7_goesRound (d + 1)) (Z : xR κ Q) (x1 : Int32) (x2 : Int32) (st : xSt) (h : ((x2 < 0 → Q (some (.int 0)) st) ∧ (¬ x2 < 0 → vp_in x2 8 ∧ vp_in x2 8 ∧ vp_in x2 8 ∧ ((¬ ((xup st 37 (x2 : Int32).toNatClampNeg ((st.1 37 (x2 : Int32).toNatClampNeg) + 1)).1 37 (x2 : Int32).toNatClampNeg) = ((xup st 37 (x2 : Int32).toNatClampNeg ((st.1 37 (x2 : Int32).toNatClampNeg) + 1)).1 7 10) → Ct d M_X7_mayStand [.ref 7, .int x2] (xup st 37 (x2 : Int32).toNatClampNeg ((st.1 37 (x2 : Int32).toNatClampNeg) + 1)) (Qi fun v5 s4 => ((v5 = 0 → X κ 22 [(0, .ref 7), (1, .int x1), (2, .int x2)] [] s4) ∧ (¬ v5 = 0 → ((¬ x2 = (x1 - 1) → (((x1 - 1) ≤ x2 → X κ 22 [(0, .ref 7), (1, .int x1), (2, .int (x2 + 0))] [] s4) ∧ (¬ (x1 - 1) ≤ x2 → X κ 22 [(0, .ref 7), (1, .int x1), (2, .int (x2 + 1))] [] s4))) ∧ (x2 = (x1 - 1) → vp_in x2 8 ∧ Ct d M_X7_owedBy [.ref 7, .int (s4.1 37 (x2 : Int32).toNatClampNeg), .int (s4.1 37 (0 : Int32).toNatClampNeg)] s4 (Qi fun v8 s7 => ((v8 ≤ 0 → (((x1 - 1) ≤ x2 → X κ 22 [(0, .ref 7), (1, .int x1), (2, .int (x2 + 0))] [] s7) ∧ (¬ (x1 - 1) ≤ x2 → X κ 22 [(0, .ref 7), (1, .int x1), (2, .int (x2 + 1))] [] s7))) ∧ (¬ v8 ≤ 0 → Q (some (.int 1)) s7))))))))) ∧ (((xup st 37 (x2 : Int32).toNatClampNeg ((st.1 37 (x2 : Int32).toNatClampNeg) + 1)).1 37 (x2 : Int32).toNatClampNeg) = ((xup st 37 (x2 : Int32).toNatClampNeg ((st.1 37 (x2 : Int32).toNatClampNeg) + 1)).1 7 10) → vp_in x2 8 ∧ X κ 22 [(0, .ref 7), (1, .int x1), (2, .int (x2 + (-1)))] [] (xup (xup st 37 (x2 : Int32).toNatClampNeg ((st.1 37 (x2 : Int32).toNatClampNeg) + 1)) 37 (x2 : Int32).toNatClampNeg ((-1)))))))) : X κ 22 [(0, .ref 7), (1, .int x1), (2, .int x2)] [] st := by
  refine X_iload_n C dX7_goesRound_22 rfl (j := 2) rfl ?_
  refine X_if_lt C dX7_goesRound_23 (tgt := 116) (by decide) (fun c => ?_) (fun c => ?_)
  · replace h := h.1 c
    refine X_iconst C (v := 0) (by decide) dX7_goesRound_116 ?_
    exact X_zret C Z rfl (by decide) dX7_goesRound_117 h
  · replace h := h.2 c
    refine X_aload_n C dX7_goesRound_26 rfl (j := 0) rfl ?_
    refine X_getR C sh_7 rfl fw_RX7_42 dX7_goesRound_27 ?_
    refine X_iload_n C dX7_goesRound_30 rfl (j := 2) rfl ?_
    refine X_dup2 C rfl rfl dX7_goesRound_31 ?_
    obtain ⟨g1, h⟩ := h
    refine X_iald C sh_37 g1 dX7_goesRound_32 ?_
    refine X_iconst C (v := 1) (by decide) dX7_goesRound_33 ?_
    refine X_iadd C dX7_goesRound_34 ?_
    obtain ⟨g2, h⟩ := h
    refine X_iast C sh_37 g2 dX7_goesRound_35 ?_
    refine X_aload_n C dX7_goesRound_36 rfl (j := 0) rfl ?_
    refine X_getR C sh_7 rfl fw_RX7_42 dX7_goesRound_37 ?_
    refine X_iload_n C dX7_goesRound_40 rfl (j := 2) rfl ?_
    obtain ⟨g3, h⟩ := h
    refine X_iald C sh_37 g3 dX7_goesRound_41 ?_
    refine X_aload_n C dX7_goesRound_42 rfl (j := 0) rfl ?_
    refine X_getI C sh_7 rfl fw_RX7_157 dX7_goesRound_43 ?_
    refine X_icmp_ne C dX7_goesRound_46 (tgt := 62) (by decide) (fun c => ?_) (fun c => ?_)
    · replace h := h.1 c
      refine X_aload_n C dX7_goesRound_62 rfl (j := 0) rfl ?_
      refine X_iload_n C dX7_goesRound_63 rfl (j := 2) rfl ?_
      refine X_callV C dX7_goesRound_64 pw_RX7_173 (b := 7) (as := [.int x2]) (S := []) sh_7 rfl rfl rfl (Nat.le_of_ble_eq_true rfl) (Ct_mono h ?_)
      rintro _ s4 ⟨v5, rfl, h⟩
      show X κ 67 [(0, .ref 7), (1, .int x1), (2, .int x2)] [.int v5] s4
      refine X_if_eq C dX7_goesRound_67 (tgt := 22) (by decide) (fun c => ?_) (fun c => ?_)
      · replace h := h.1 c
        refine X_loc [0, 1, 2] rfl ?_
        exact h
      · replace h := h.2 c
        refine X_iload_n C dX7_goesRound_70 rfl (j := 2) rfl ?_
        refine X_iload_n C dX7_goesRound_71 rfl (j := 1) rfl ?_
        refine X_iconst C (v := 1) (by decide) dX7_goesRound_72 ?_
        refine X_isub C dX7_goesRound_73 ?_
        refine X_icmp_ne C dX7_goesRound_74 (tgt := 98) (by decide) (fun c => ?_) (fun c => ?_)
        · replace h := h.1 c
          refine X_iload_n C dX7_goesRound_98 rfl (j := 2) rfl ?_
          refine X_iload_n C dX7_goesRound_99 rfl (j := 2) rfl ?_
          refine X_iload_n C dX7_goesRound_100 rfl (j := 1) rfl ?_
          refine X_iconst C (v := 1) (by decide) dX7_goesRound_101 ?_
          refine X_isub C dX7_goesRound_102 ?_
          refine X_icmp_ge C dX7_goesRound_103 (tgt := 110) (by decide) (fun c => ?_) (fun c => ?_)
          · replace h := h.1 c
            refine X_iconst C (v := 0) (by decide) dX7_goesRound_110 ?_
            refine X_iadd C dX7_goesRound_111 ?_
            refine X_istore_n C dX7_goesRound_112 rfl (by decide) (L' := [(2, .int (x2 + 0)), (0, .ref 7), (1, .int x1)]) rfl ?_
            refine X_goto C dX7_goesRound_113 (tgt := 22) (by decide) ?_
            refine X_loc [1, 2, 0] rfl ?_
            exact h
          · replace h := h.2 c
            refine X_iconst C (v := 1) (by decide) dX7_goesRound_106 ?_
            refine X_goto C dX7_goesRound_107 (tgt := 111) (by decide) ?_
            refine X_iadd C dX7_goesRound_111 ?_
            refine X_istore_n C dX7_goesRound_112 rfl (by decide) (L' := [(2, .int (x2 + 1)), (0, .ref 7), (1, .int x1)]) rfl ?_
            refine X_goto C dX7_goesRound_113 (tgt := 22) (by decide) ?_
            refine X_loc [1, 2, 0] rfl ?_
            exact h
        · replace h := h.2 c
          refine X_aload_n C dX7_goesRound_77 rfl (j := 0) rfl ?_
          refine X_aload_n C dX7_goesRound_78 rfl (j := 0) rfl ?_
          refine X_getR C sh_7 rfl fw_RX7_42 dX7_goesRound_79 ?_
          refine X_iload_n C dX7_goesRound_82 rfl (j := 2) rfl ?_
          obtain ⟨g6, h⟩ := h
          refine X_iald C sh_37 g6 dX7_goesRound_83 ?_
          refine X_aload_n C dX7_goesRound_84 rfl (j := 0) rfl ?_
          refine X_getR C sh_7 rfl fw_RX7_42 dX7_goesRound_85 ?_
          refine X_iconst C (v := 0) (by decide) dX7_goesRound_88 ?_
          refine X_iald C sh_37 (by unfold vp_in; decide) dX7_goesRound_89 ?_
          refine X_callV C dX7_goesRound_90 pw_RX7_167 (b := 7) (as := [.int (s4.1 37 (x2 : Int32).toNatClampNeg), .int (s4.1 37 (0 : Int32).toNatClampNeg)]) (S := []) sh_7 rfl rfl rfl (Nat.le_of_ble_eq_true rfl) (Ct_mono h ?_)
          rintro _ s7 ⟨v8, rfl, h⟩
          show X κ 93 [(0, .ref 7), (1, .int x1), (2, .int x2)] [.int v8] s7
          refine X_if_le C dX7_goesRound_93 (tgt := 98) (by decide) (fun c => ?_) (fun c => ?_)
          · replace h := h.1 c
            refine X_iload_n C dX7_goesRound_98 rfl (j := 2) rfl ?_
            refine X_iload_n C dX7_goesRound_99 rfl (j := 2) rfl ?_
            refine X_iload_n C dX7_goesRound_100 rfl (j := 1) rfl ?_
            refine X_iconst C (v := 1) (by decide) dX7_goesRound_101 ?_
            refine X_isub C dX7_goesRound_102 ?_
            refine X_icmp_ge C dX7_goesRound_103 (tgt := 110) (by decide) (fun c => ?_) (fun c => ?_)
            · replace h := h.1 c
              refine X_iconst C (v := 0) (by decide) dX7_goesRound_110 ?_
              refine X_iadd C dX7_goesRound_111 ?_
              refine X_istore_n C dX7_goesRound_112 rfl (by decide) (L' := [(2, .int (x2 + 0)), (0, .ref 7), (1, .int x1)]) rfl ?_
              refine X_goto C dX7_goesRound_113 (tgt := 22) (by decide) ?_
              refine X_loc [1, 2, 0] rfl ?_
              exact h
            · replace h := h.2 c
              refine X_iconst C (v := 1) (by decide) dX7_goesRound_106 ?_
              refine X_goto C dX7_goesRound_107 (tgt := 111) (by decide) ?_
              refine X_iadd C dX7_goesRound_111 ?_
              refine X_istore_n C dX7_goesRound_112 rfl (by decide) (L' := [(2, .int (x2 + 1)), (0, .ref 7), (1, .int x1)]) rfl ?_
              refine X_goto C dX7_goesRound_113 (tgt := 22) (by decide) ?_
              refine X_loc [1, 2, 0] rfl ?_
              exact h
          · replace h := h.2 c
            refine X_iconst C (v := 1) (by decide) dX7_goesRound_96 ?_
            exact X_zret C Z rfl (by decide) dX7_goesRound_97 h
    · replace h := h.2 c
      refine X_aload_n C dX7_goesRound_49 rfl (j := 0) rfl ?_
      refine X_getR C sh_7 rfl fw_RX7_42 dX7_goesRound_50 ?_
      refine X_iload_n C dX7_goesRound_53 rfl (j := 2) rfl ?_
      refine X_iconst C (v := (-1)) (by decide) dX7_goesRound_54 ?_
      obtain ⟨g9, h⟩ := h
      refine X_iast C sh_37 g9 dX7_goesRound_55 ?_
      refine X_iinc C dX7_goesRound_56 (j := 2) rfl (v := x2 + (-1)) rfl (by decide) (L' := [(2, .int (x2 + (-1))), (0, .ref 7), (1, .int x1)]) rfl ?_
      refine X_goto C dX7_goesRound_59 (tgt := 22) (by decide) ?_
      refine X_loc [1, 2, 0] rfl ?_
      exact h
set_option maxHeartbeats 4000000 in
set_option maxRecDepth 100000 in
theorem eX7_goesRound {d : Nat} {Q : Option Value → xSt → Prop} (a1 : Int32) (st : xSt) (h : ∀ κ : xK, Cx κ M_X7_goesRound (d + 1) → xR κ Q → X κ 2 [(0, .ref 7), (1, .int a1), (2, .int 0)] [] st) : Ct (d + 1) M_X7_goesRound [.ref 7, .int a1] st Q := by
  refine Ct_of (by decide +kernel) (Nat.le_of_ble_eq_true rfl) (fun κ C Z => ?_)
  replace h := h κ C Z
  show X κ 0 [(0, .ref 7), (1, .int a1)] [] st
  refine X_iconst C (v := 0) (by decide) dX7_goesRound_0 ?_
  refine X_istore_n C dX7_goesRound_1 rfl (by decide) (L' := [(2, .int 0), (0, .ref 7), (1, .int a1)]) rfl ?_
  refine X_loc [1, 2, 0] rfl ?_
  exact h
set_option maxHeartbeats 4000000 in
set_option maxRecDepth 100000 in
theorem bX7_mayStand_2 {κ : xK} {d : Nat} {Q : Option Value → xSt → Prop} (C : Cx κ M_X7_mayStand (d + 1)) (Z : xR κ Q) (x1 : Int32) (x2 : Int32) (st : xSt) (h : ((x1 ≤ x2 → ((x1 = 0 → Q (some (.int 1)) st) ∧ (¬ x1 = 0 → vp_in x1 8 ∧ (((st.1 37 (x1 : Int32).toNatClampNeg) ≤ (st.1 37 (0 : Int32).toNatClampNeg) → Q (some (.int 0)) st) ∧ (¬ (st.1 37 (x1 : Int32).toNatClampNeg) ≤ (st.1 37 (0 : Int32).toNatClampNeg) → vp_in (x1 - 1) 8 ∧ vp_in x1 8 ∧ Ct d M_X7_owedBy [.ref 7, .int (st.1 37 (x1 - 1 : Int32).toNatClampNeg), .int (st.1 37 (x1 : Int32).toNatClampNeg)] st (Qi fun v5 s4 => ((v5 ≤ 0 → Q (some (.int 0)) s4) ∧ (¬ v5 ≤ 0 → Q (some (.int 1)) s4)))))))) ∧ (¬ x1 ≤ x2 → vp_in x2 8 ∧ vp_in x1 8 ∧ ((¬ (st.1 37 (x2 : Int32).toNatClampNeg) = (st.1 37 (x1 : Int32).toNatClampNeg) → X κ 2 [(0, .ref 7), (1, .int x1), (2, .int (x2 + 1))] [] st) ∧ ((st.1 37 (x2 : Int32).toNatClampNeg) = (st.1 37 (x1 : Int32).toNatClampNeg) → Q (some (.int 0)) st))))) : X κ 2 [(0, .ref 7), (1, .int x1), (2, .int x2)] [] st := by
  refine X_iload_n C dX7_mayStand_2 rfl (j := 2) rfl ?_
  refine X_iload_n C dX7_mayStand_3 rfl (j := 1) rfl ?_
  refine X_icmp_ge C dX7_mayStand_4 (tgt := 30) (by decide) (fun c => ?_) (fun c => ?_)
  · replace h := h.1 c
    refine X_iload_n C dX7_mayStand_30 rfl (j := 1) rfl ?_
    refine X_if_eq C dX7_mayStand_31 (tgt := 70) (by decide) (fun c => ?_) (fun c => ?_)
    · replace h := h.1 c
      refine X_iconst C (v := 1) (by decide) dX7_mayStand_70 ?_
      refine X_goto C dX7_mayStand_71 (tgt := 75) (by decide) ?_
      exact X_zret C Z rfl (by decide) dX7_mayStand_75 h
    · replace h := h.2 c
      refine X_aload_n C dX7_mayStand_34 rfl (j := 0) rfl ?_
      refine X_getR C sh_7 rfl fw_RX7_42 dX7_mayStand_35 ?_
      refine X_iload_n C dX7_mayStand_38 rfl (j := 1) rfl ?_
      obtain ⟨g1, h⟩ := h
      refine X_iald C sh_37 g1 dX7_mayStand_39 ?_
      refine X_aload_n C dX7_mayStand_40 rfl (j := 0) rfl ?_
      refine X_getR C sh_7 rfl fw_RX7_42 dX7_mayStand_41 ?_
      refine X_iconst C (v := 0) (by decide) dX7_mayStand_44 ?_
      refine X_iald C sh_37 (by unfold vp_in; decide) dX7_mayStand_45 ?_
      refine X_icmp_le C dX7_mayStand_46 (tgt := 74) (by decide) (fun c => ?_) (fun c => ?_)
      · replace h := h.1 c
        refine X_iconst C (v := 0) (by decide) dX7_mayStand_74 ?_
        exact X_zret C Z rfl (by decide) dX7_mayStand_75 h
      · replace h := h.2 c
        refine X_aload_n C dX7_mayStand_49 rfl (j := 0) rfl ?_
        refine X_aload_n C dX7_mayStand_50 rfl (j := 0) rfl ?_
        refine X_getR C sh_7 rfl fw_RX7_42 dX7_mayStand_51 ?_
        refine X_iload_n C dX7_mayStand_54 rfl (j := 1) rfl ?_
        refine X_iconst C (v := 1) (by decide) dX7_mayStand_55 ?_
        refine X_isub C dX7_mayStand_56 ?_
        obtain ⟨g2, h⟩ := h
        refine X_iald C sh_37 g2 dX7_mayStand_57 ?_
        refine X_aload_n C dX7_mayStand_58 rfl (j := 0) rfl ?_
        refine X_getR C sh_7 rfl fw_RX7_42 dX7_mayStand_59 ?_
        refine X_iload_n C dX7_mayStand_62 rfl (j := 1) rfl ?_
        obtain ⟨g3, h⟩ := h
        refine X_iald C sh_37 g3 dX7_mayStand_63 ?_
        refine X_callV C dX7_mayStand_64 pw_RX7_167 (b := 7) (as := [.int (st.1 37 (x1 - 1 : Int32).toNatClampNeg), .int (st.1 37 (x1 : Int32).toNatClampNeg)]) (S := []) sh_7 rfl rfl rfl (Nat.le_of_ble_eq_true rfl) (Ct_mono h ?_)
        rintro _ s4 ⟨v5, rfl, h⟩
        show X κ 67 [(0, .ref 7), (1, .int x1), (2, .int x2)] [.int v5] s4
        refine X_if_le C dX7_mayStand_67 (tgt := 74) (by decide) (fun c => ?_) (fun c => ?_)
        · replace h := h.1 c
          refine X_iconst C (v := 0) (by decide) dX7_mayStand_74 ?_
          exact X_zret C Z rfl (by decide) dX7_mayStand_75 h
        · replace h := h.2 c
          refine X_iconst C (v := 1) (by decide) dX7_mayStand_70 ?_
          refine X_goto C dX7_mayStand_71 (tgt := 75) (by decide) ?_
          exact X_zret C Z rfl (by decide) dX7_mayStand_75 h
  · replace h := h.2 c
    refine X_aload_n C dX7_mayStand_7 rfl (j := 0) rfl ?_
    refine X_getR C sh_7 rfl fw_RX7_42 dX7_mayStand_8 ?_
    refine X_iload_n C dX7_mayStand_11 rfl (j := 2) rfl ?_
    obtain ⟨g6, h⟩ := h
    refine X_iald C sh_37 g6 dX7_mayStand_12 ?_
    refine X_aload_n C dX7_mayStand_13 rfl (j := 0) rfl ?_
    refine X_getR C sh_7 rfl fw_RX7_42 dX7_mayStand_14 ?_
    refine X_iload_n C dX7_mayStand_17 rfl (j := 1) rfl ?_
    obtain ⟨g7, h⟩ := h
    refine X_iald C sh_37 g7 dX7_mayStand_18 ?_
    refine X_icmp_ne C dX7_mayStand_19 (tgt := 24) (by decide) (fun c => ?_) (fun c => ?_)
    · replace h := h.1 c
      refine X_iinc C dX7_mayStand_24 (j := 2) rfl (v := x2 + 1) rfl (by decide) (L' := [(2, .int (x2 + 1)), (0, .ref 7), (1, .int x1)]) rfl ?_
      refine X_goto C dX7_mayStand_27 (tgt := 2) (by decide) ?_
      refine X_loc [1, 2, 0] rfl ?_
      exact h
    · replace h := h.2 c
      refine X_iconst C (v := 0) (by decide) dX7_mayStand_22 ?_
      exact X_zret C Z rfl (by decide) dX7_mayStand_23 h
set_option maxHeartbeats 4000000 in
set_option maxRecDepth 100000 in
theorem eX7_mayStand {d : Nat} {Q : Option Value → xSt → Prop} (a1 : Int32) (st : xSt) (h : ∀ κ : xK, Cx κ M_X7_mayStand (d + 1) → xR κ Q → X κ 2 [(0, .ref 7), (1, .int a1), (2, .int 0)] [] st) : Ct (d + 1) M_X7_mayStand [.ref 7, .int a1] st Q := by
  refine Ct_of (by decide +kernel) (Nat.le_of_ble_eq_true rfl) (fun κ C Z => ?_)
  replace h := h κ C Z
  show X κ 0 [(0, .ref 7), (1, .int a1)] [] st
  refine X_iconst C (v := 0) (by decide) dX7_mayStand_0 ?_
  refine X_istore_n C dX7_mayStand_1 rfl (by decide) (L' := [(2, .int 0), (0, .ref 7), (1, .int a1)]) rfl ?_
  refine X_loc [1, 2, 0] rfl ?_
  exact h
set_option maxHeartbeats 4000000 in
set_option maxRecDepth 100000 in
theorem bX7_close_7 {κ : xK} {d : Nat} {Q : Option Value → xSt → Prop} (C : Cx κ M_X7_close (d + 1)) (Z : xR κ Q) (x1 : Int32) (x2 : Int32) (st : xSt) (h : ((x2 ≤ 0 → Q (some (.int x1)) st) ∧ (¬ x2 ≤ 0 → X κ 18 [(0, .ref 7), (1, .int x1), (2, .int x2), (3, .int 400), (4, .int 0)] [] st))) : X κ 7 [(0, .ref 7), (1, .int x1), (2, .int x2)] [] st := by
  refine X_iload_n C dX7_close_7 rfl (j := 2) rfl ?_
  refine X_if_le C dX7_close_8 (tgt := 117) (by decide) (fun c => ?_) (fun c => ?_)
  · replace h := h.1 c
    refine X_iload_n C dX7_close_117 rfl (j := 1) rfl ?_
    exact X_iret C Z rfl dX7_close_118 h
  · replace h := h.2 c
    refine X_sipush C (v := 400) (by decide) dX7_close_11 ?_
    refine X_istore_n C dX7_close_14 rfl (by decide) (L' := [(3, .int 400), (0, .ref 7), (1, .int x1), (2, .int x2)]) rfl ?_
    refine X_iconst C (v := 0) (by decide) dX7_close_15 ?_
    refine X_istore C dX7_close_16 (by decide) (L' := [(4, .int 0), (3, .int 400), (0, .ref 7), (1, .int x1), (2, .int x2)]) rfl ?_
    refine X_loc [2, 3, 4, 1, 0] rfl ?_
    exact h
set_option maxHeartbeats 4000000 in
set_option maxRecDepth 100000 in
theorem bX7_close_18 {κ : xK} {d : Nat} {Q : Option Value → xSt → Prop} (C : Cx κ M_X7_close (d + 1)) (Z : xR κ Q) (x1 : Int32) (x2 : Int32) (x3 : Int32) (x4 : Int32) (st : xSt) (h : ((x2 ≤ x4 → X κ 70 [(0, .ref 7), (1, .int x1), (2, .int x2), (3, .int x3), (4, .int 0)] [] st) ∧ (¬ x2 ≤ x4 → vp_in x4 8 ∧ ¬ x2 = 0 ∧ vp_in ((x4 + 1) - (x4 + 1) / x2 * x2) 8 ∧ Ct d M_X7_owedBy [.ref 7, .int (st.1 37 (x4 : Int32).toNatClampNeg), .int (st.1 37 ((x4 + 1) - (x4 + 1) / x2 * x2 : Int32).toNatClampNeg)] st (Qi fun v4 s3 => ((x3 ≤ v4 → X κ 18 [(0, .ref 7), (1, .int x1), (2, .int x2), (3, .int x3), (4, .int (x4 + 1))] [] s3) ∧ (¬ x3 ≤ v4 → X κ 18 [(0, .ref 7), (1, .int x1), (2, .int x2), (3, .int v4), (4, .int (x4 + 1))] [] s3)))))) : X κ 18 [(0, .ref 7), (1, .int x1), (2, .int x2), (3, .int x3), (4, .int x4)] [] st := by
  refine X_iload C dX7_close_18 (j := 4) rfl ?_
  refine X_iload_n C dX7_close_20 rfl (j := 2) rfl ?_
  refine X_icmp_ge C dX7_close_21 (tgt := 67) (by decide) (fun c => ?_) (fun c => ?_)
  · replace h := h.1 c
    refine X_iconst C (v := 0) (by decide) dX7_close_67 ?_
    refine X_istore C dX7_close_68 (by decide) (L' := [(4, .int 0), (0, .ref 7), (1, .int x1), (2, .int x2), (3, .int x3)]) rfl ?_
    refine X_loc [1, 2, 3, 4, 0] rfl ?_
    exact h
  · replace h := h.2 c
    refine X_aload_n C dX7_close_24 rfl (j := 0) rfl ?_
    refine X_aload_n C dX7_close_25 rfl (j := 0) rfl ?_
    refine X_getR C sh_7 rfl fw_RX7_42 dX7_close_26 ?_
    refine X_iload C dX7_close_29 (j := 4) rfl ?_
    obtain ⟨g1, h⟩ := h
    refine X_iald C sh_37 g1 dX7_close_31 ?_
    refine X_aload_n C dX7_close_32 rfl (j := 0) rfl ?_
    refine X_getR C sh_7 rfl fw_RX7_42 dX7_close_33 ?_
    refine X_iload C dX7_close_36 (j := 4) rfl ?_
    refine X_iconst C (v := 1) (by decide) dX7_close_38 ?_
    refine X_iadd C dX7_close_39 ?_
    refine X_iload_n C dX7_close_40 rfl (j := 2) rfl ?_
    obtain ⟨g, h⟩ := h
    refine X_irem C g dX7_close_41 ?_
    obtain ⟨g2, h⟩ := h
    refine X_iald C sh_37 g2 dX7_close_42 ?_
    refine X_callV C dX7_close_43 pw_RX7_167 (b := 7) (as := [.int (st.1 37 (x4 : Int32).toNatClampNeg), .int (st.1 37 ((x4 + 1) - (x4 + 1) / x2 * x2 : Int32).toNatClampNeg)]) (S := []) sh_7 rfl rfl rfl (Nat.le_of_ble_eq_true rfl) (Ct_mono h ?_)
    rintro _ s3 ⟨v4, rfl, h⟩
    show X κ 46 [(0, .ref 7), (1, .int x1), (2, .int x2), (3, .int x3), (4, .int x4)] [.int v4] s3
    refine X_istore C dX7_close_46 (by decide) (L' := [(5, .int v4), (0, .ref 7), (1, .int x1), (2, .int x2), (3, .int x3), (4, .int x4)]) rfl ?_
    refine X_iload C dX7_close_48 (j := 0) rfl ?_
    refine X_iload_n C dX7_close_50 rfl (j := 4) rfl ?_
    refine X_icmp_ge C dX7_close_51 (tgt := 59) (by decide) (fun c => ?_) (fun c => ?_)
    · replace h := h.1 c
      refine X_iload_n C dX7_close_59 rfl (j := 4) rfl ?_
      refine X_istore_n C dX7_close_60 rfl (by decide) (L' := [(3, .int x3), (5, .int v4), (0, .ref 7), (1, .int x1), (2, .int x2), (4, .int x4)]) rfl ?_
      refine X_iinc C dX7_close_61 (j := 5) rfl (v := x4 + 1) rfl (by decide) (L' := [(4, .int (x4 + 1)), (3, .int x3), (5, .int v4), (0, .ref 7), (1, .int x1), (2, .int x2)]) rfl ?_
      refine X_goto C dX7_close_64 (tgt := 18) (by decide) ?_
      refine X_loc [3, 4, 5, 1, 0] rfl ?_
      exact h
    · replace h := h.2 c
      refine X_iload C dX7_close_54 (j := 0) rfl ?_
      refine X_goto C dX7_close_56 (tgt := 60) (by decide) ?_
      refine X_istore_n C dX7_close_60 rfl (by decide) (L' := [(3, .int v4), (5, .int v4), (0, .ref 7), (1, .int x1), (2, .int x2), (4, .int x4)]) rfl ?_
      refine X_iinc C dX7_close_61 (j := 5) rfl (v := x4 + 1) rfl (by decide) (L' := [(4, .int (x4 + 1)), (3, .int v4), (5, .int v4), (0, .ref 7), (1, .int x1), (2, .int x2)]) rfl ?_
      refine X_goto C dX7_close_64 (tgt := 18) (by decide) ?_
      refine X_loc [3, 4, 5, 1, 0] rfl ?_
      exact h
set_option maxHeartbeats 4000000 in
set_option maxRecDepth 100000 in
theorem bX7_close_70 {κ : xK} {d : Nat} {Q : Option Value → xSt → Prop} (C : Cx κ M_X7_close (d + 1)) (Z : xR κ Q) (x1 : Int32) (x2 : Int32) (x3 : Int32) (x4 : Int32) (st : xSt) (h : ((x2 ≤ x4 → Ct d M_X7_finds [.ref 7] st (Qi fun v2 s1 => X κ 7 [(0, .ref 7), (1, .int (x1 + 1)), (2, .int v2)] [] s1)) ∧ (¬ x2 ≤ x4 → vp_in x4 8 ∧ ¬ x2 = 0 ∧ vp_in ((x4 + 1) - (x4 + 1) / x2 * x2) 8 ∧ Ct d M_X7_owe [.ref 7, .int (st.1 37 (x4 : Int32).toNatClampNeg), .int (st.1 37 ((x4 + 1) - (x4 + 1) / x2 * x2 : Int32).toNatClampNeg), .int (-x3)] st (Qv fun s5 => X κ 70 [(0, .ref 7), (1, .int x1), (2, .int x2), (3, .int x3), (4, .int (x4 + 1))] [] s5)))) : X κ 70 [(0, .ref 7), (1, .int x1), (2, .int x2), (3, .int x3), (4, .int x4)] [] st := by
  refine X_iload C dX7_close_70 (j := 4) rfl ?_
  refine X_iload_n C dX7_close_72 rfl (j := 2) rfl ?_
  refine X_icmp_ge C dX7_close_73 (tgt := 106) (by decide) (fun c => ?_) (fun c => ?_)
  · replace h := h.1 c
    refine X_iinc C dX7_close_106 (j := 1) rfl (v := x1 + 1) rfl (by decide) (L' := [(1, .int (x1 + 1)), (0, .ref 7), (2, .int x2), (3, .int x3), (4, .int x4)]) rfl ?_
    refine X_aload_n C dX7_close_109 rfl (j := 1) rfl ?_
    refine X_callV C dX7_close_110 pw_RX7_176 (b := 7) (as := []) (S := []) sh_7 rfl rfl rfl (Nat.le_of_ble_eq_true rfl) (Ct_mono h ?_)
    rintro _ s1 ⟨v2, rfl, h⟩
    show X κ 113 [(1, .int (x1 + 1)), (0, .ref 7), (2, .int x2), (3, .int x3), (4, .int x4)] [.int v2] s1
    refine X_istore_n C dX7_close_113 rfl (by decide) (L' := [(2, .int v2), (1, .int (x1 + 1)), (0, .ref 7), (3, .int x3), (4, .int x4)]) rfl ?_
    refine X_goto C dX7_close_114 (tgt := 7) (by decide) ?_
    refine X_loc [2, 1, 0] rfl ?_
    exact h
  · replace h := h.2 c
    refine X_aload_n C dX7_close_76 rfl (j := 0) rfl ?_
    refine X_aload_n C dX7_close_77 rfl (j := 0) rfl ?_
    refine X_getR C sh_7 rfl fw_RX7_42 dX7_close_78 ?_
    refine X_iload C dX7_close_81 (j := 4) rfl ?_
    obtain ⟨g3, h⟩ := h
    refine X_iald C sh_37 g3 dX7_close_83 ?_
    refine X_aload_n C dX7_close_84 rfl (j := 0) rfl ?_
    refine X_getR C sh_7 rfl fw_RX7_42 dX7_close_85 ?_
    refine X_iload C dX7_close_88 (j := 4) rfl ?_
    refine X_iconst C (v := 1) (by decide) dX7_close_90 ?_
    refine X_iadd C dX7_close_91 ?_
    refine X_iload_n C dX7_close_92 rfl (j := 2) rfl ?_
    obtain ⟨g, h⟩ := h
    refine X_irem C g dX7_close_93 ?_
    obtain ⟨g4, h⟩ := h
    refine X_iald C sh_37 g4 dX7_close_94 ?_
    refine X_iload_n C dX7_close_95 rfl (j := 3) rfl ?_
    refine X_ineg C dX7_close_96 ?_
    refine X_callV C dX7_close_97 pw_RX7_163 (b := 7) (as := [.int (st.1 37 (x4 : Int32).toNatClampNeg), .int (st.1 37 ((x4 + 1) - (x4 + 1) / x2 * x2 : Int32).toNatClampNeg), .int (-x3)]) (S := []) sh_7 rfl rfl rfl (Nat.le_of_ble_eq_true rfl) (Ct_mono h ?_)
    rintro _ s5 ⟨rfl, h⟩
    show X κ 100 [(0, .ref 7), (1, .int x1), (2, .int x2), (3, .int x3), (4, .int x4)] [] s5
    refine X_iinc C dX7_close_100 (j := 4) rfl (v := x4 + 1) rfl (by decide) (L' := [(4, .int (x4 + 1)), (0, .ref 7), (1, .int x1), (2, .int x2), (3, .int x3)]) rfl ?_
    refine X_goto C dX7_close_103 (tgt := 70) (by decide) ?_
    refine X_loc [1, 2, 3, 4, 0] rfl ?_
    exact h
set_option maxHeartbeats 4000000 in
set_option maxRecDepth 100000 in
theorem eX7_close {d : Nat} {Q : Option Value → xSt → Prop} (st : xSt) (h : ∀ κ : xK, Cx κ M_X7_close (d + 1) → xR κ Q → Ct d M_X7_finds [.ref 7] st (Qi fun v2 s1 => X κ 7 [(0, .ref 7), (1, .int 0), (2, .int v2)] [] s1)) : Ct (d + 1) M_X7_close [.ref 7] st Q := by
  refine Ct_of (by decide +kernel) (Nat.le_of_ble_eq_true rfl) (fun κ C Z => ?_)
  replace h := h κ C Z
  show X κ 0 [(0, .ref 7)] [] st
  refine X_iconst C (v := 0) (by decide) dX7_close_0 ?_
  refine X_istore_n C dX7_close_1 rfl (by decide) (L' := [(1, .int 0), (0, .ref 7)]) rfl ?_
  refine X_aload_n C dX7_close_2 rfl (j := 1) rfl ?_
  refine X_callV C dX7_close_3 pw_RX7_176 (b := 7) (as := []) (S := []) sh_7 rfl rfl rfl (Nat.le_of_ble_eq_true rfl) (Ct_mono h ?_)
  rintro _ s1 ⟨v2, rfl, h⟩
  show X κ 6 [(1, .int 0), (0, .ref 7)] [.int v2] s1
  refine X_istore_n C dX7_close_6 rfl (by decide) (L' := [(2, .int v2), (1, .int 0), (0, .ref 7)]) rfl ?_
  refine X_loc [2, 1, 0] rfl ?_
  exact h
set_option maxHeartbeats 4000000 in
set_option maxRecDepth 100000 in
theorem bX7_worth_15 {κ : xK} {d : Nat} {Q : Option Value → xSt → Prop} (C : Cx κ M_X7_worth (d + 1)) (Z : xR κ Q) (x1 : Int32) (x2 : Int32) (x3 : Int32) (st : xSt) (h : (((st.1 7 10) ≤ x3 → Q (some (.int x2)) st) ∧ (¬ (st.1 7 10) ≤ x3 → vp_in ((8 * x1) + x3) 64 ∧ X κ 15 [(0, .ref 7), (1, .int x1), (2, .int (x2 - (st.1 36 ((8 * x1) + x3 : Int32).toNatClampNeg))), (3, .int (x3 + 1))] [] st))) : X κ 15 [(0, .ref 7), (1, .int x1), (2, .int x2), (3, .int x3)] [] st := by
  refine X_iload_n C dX7_worth_15 rfl (j := 3) rfl ?_
  refine X_aload_n C dX7_worth_16 rfl (j := 0) rfl ?_
  refine X_getI C sh_7 rfl fw_RX7_157 dX7_worth_17 ?_
  refine X_icmp_ge C dX7_worth_20 (tgt := 43) (by decide) (fun c => ?_) (fun c => ?_)
  · replace h := h.1 c
    refine X_iload_n C dX7_worth_43 rfl (j := 2) rfl ?_
    exact X_iret C Z rfl dX7_worth_44 h
  · replace h := h.2 c
    refine X_iload_n C dX7_worth_23 rfl (j := 2) rfl ?_
    refine X_aload_n C dX7_worth_24 rfl (j := 0) rfl ?_
    refine X_getR C sh_7 rfl fw_RX7_39 dX7_worth_25 ?_
    refine X_bipush C (v := 8) (by decide) dX7_worth_28 ?_
    refine X_iload_n C dX7_worth_30 rfl (j := 1) rfl ?_
    refine X_imul C dX7_worth_31 ?_
    refine X_iload_n C dX7_worth_32 rfl (j := 3) rfl ?_
    refine X_iadd C dX7_worth_33 ?_
    obtain ⟨g1, h⟩ := h
    refine X_iald C sh_36 g1 dX7_worth_34 ?_
    refine X_isub C dX7_worth_35 ?_
    refine X_istore_n C dX7_worth_36 rfl (by decide) (L' := [(2, .int (x2 - (st.1 36 ((8 * x1) + x3 : Int32).toNatClampNeg))), (0, .ref 7), (1, .int x1), (3, .int x3)]) rfl ?_
    refine X_iinc C dX7_worth_37 (j := 3) rfl (v := x3 + 1) rfl (by decide) (L' := [(3, .int (x3 + 1)), (2, .int (x2 - (st.1 36 ((8 * x1) + x3 : Int32).toNatClampNeg))), (0, .ref 7), (1, .int x1)]) rfl ?_
    refine X_goto C dX7_worth_40 (tgt := 15) (by decide) ?_
    refine X_loc [2, 3, 1, 0] rfl ?_
    exact h
set_option maxHeartbeats 4000000 in
set_option maxRecDepth 100000 in
theorem eX7_worth {d : Nat} {Q : Option Value → xSt → Prop} (a1 : Int32) (st : xSt) (h : ∀ κ : xK, Cx κ M_X7_worth (d + 1) → xR κ Q → Ct d M_X7_isPerson [.ref 7, .int a1] st (Qi fun v2 s1 => ((¬ v2 = 0 → X κ 15 [(0, .ref 7), (1, .int a1), (2, .int 0), (3, .int 0)] [] s1) ∧ (v2 = 0 → Q (some (.int ((-100000)))) s1)))) : Ct (d + 1) M_X7_worth [.ref 7, .int a1] st Q := by
  refine Ct_of (by decide +kernel) (Nat.le_of_ble_eq_true rfl) (fun κ C Z => ?_)
  replace h := h κ C Z
  show X κ 0 [(0, .ref 7), (1, .int a1)] [] st
  refine X_aload_n C dX7_worth_0 rfl (j := 0) rfl ?_
  refine X_iload_n C dX7_worth_1 rfl (j := 1) rfl ?_
  refine X_callV C dX7_worth_2 pw_RX7_160 (b := 7) (as := [.int a1]) (S := []) sh_7 rfl rfl rfl (Nat.le_of_ble_eq_true rfl) (Ct_mono h ?_)
  rintro _ s1 ⟨v2, rfl, h⟩
  show X κ 5 [(0, .ref 7), (1, .int a1)] [.int v2] s1
  refine X_if_ne C dX7_worth_5 (tgt := 11) (by decide) (fun c => ?_) (fun c => ?_)
  · replace h := h.1 c
    refine X_iconst C (v := 0) (by decide) dX7_worth_11 ?_
    refine X_istore_n C dX7_worth_12 rfl (by decide) (L' := [(2, .int 0), (0, .ref 7), (1, .int a1)]) rfl ?_
    refine X_iconst C (v := 0) (by decide) dX7_worth_13 ?_
    refine X_istore_n C dX7_worth_14 rfl (by decide) (L' := [(3, .int 0), (2, .int 0), (0, .ref 7), (1, .int a1)]) rfl ?_
    refine X_loc [2, 3, 1, 0] rfl ?_
    exact h
  · replace h := h.2 c
    refine X_ldc C (v := (-100000)) u_1342 dX7_worth_8 ?_
    exact X_iret C Z rfl dX7_worth_10 h
set_option maxHeartbeats 4000000 in
set_option maxRecDepth 100000 in
theorem eX7_isList {d : Nat} {Q : Option Value → xSt → Prop} (a1 : Int32) (st : xSt) (h : Ct d M_X7_in [.int a1, .int 0, .int ((st.1 7 14) - 1)] st (Qi fun v2 s1 => (v2 = 0 ∨ v2 = 1) ∧ Q (some (.int v2)) s1)) : Ct (d + 1) M_X7_isList [.ref 7, .int a1] st Q := by
  refine Ct_of (by decide +kernel) (Nat.le_of_ble_eq_true rfl) (fun κ C Z => ?_)
  show X κ 0 [(0, .ref 7), (1, .int a1)] [] st
  refine X_iload_n C dX7_isList_0 rfl (j := 1) rfl ?_
  refine X_iconst C (v := 0) (by decide) dX7_isList_1 ?_
  refine X_aload_n C dX7_isList_2 rfl (j := 0) rfl ?_
  refine X_getI C sh_7 rfl fw_RX7_180 dX7_isList_3 ?_
  refine X_iconst C (v := 1) (by decide) dX7_isList_6 ?_
  refine X_isub C dX7_isList_7 ?_
  refine X_callS C dX7_isList_8 pw_RX7_75 (as := [.int a1, .int 0, .int ((st.1 7 14) - 1)]) (S := []) rfl rfl (Nat.le_of_ble_eq_true rfl) (Ct_mono h ?_)
  rintro _ s1 ⟨v2, rfl, h⟩
  show X κ 11 [(0, .ref 7), (1, .int a1)] [.int v2] s1
  exact X_zret C Z rfl h.1 dX7_isList_11 h.2
set_option maxHeartbeats 4000000 in
set_option maxRecDepth 100000 in
theorem bX7_list_77 {κ : xK} {d : Nat} {Q : Option Value → xSt → Prop} (C : Cx κ M_X7_list (d + 1)) (Z : xR κ Q) (x1 : Int32) (x2 : Int32) (x3 : Int32) (x4 : Int32) (st : xSt) (h : ((x2 ≤ x4 → vp_in (st.1 7 14) 8 ∧ vp_in ((xup st 38 (st.1 7 14 : Int32).toNatClampNeg x2).1 7 14) 8 ∧ Q (some (.int (((xup (xup (xup st 38 (st.1 7 14 : Int32).toNatClampNeg x2) 39 ((xup st 38 (st.1 7 14 : Int32).toNatClampNeg x2).1 7 14 : Int32).toNatClampNeg x3) 7 14 (((xup (xup st 38 (st.1 7 14 : Int32).toNatClampNeg x2) 39 ((xup st 38 (st.1 7 14 : Int32).toNatClampNeg x2).1 7 14 : Int32).toNatClampNeg x3).1 7 14) + 1)).1 7 14) - 1))) (xup (xup (xup st 38 (st.1 7 14 : Int32).toNatClampNeg x2) 39 ((xup st 38 (st.1 7 14 : Int32).toNatClampNeg x2).1 7 14 : Int32).toNatClampNeg x3) 7 14 (((xup (xup st 38 (st.1 7 14 : Int32).toNatClampNeg x2) 39 ((xup st 38 (st.1 7 14 : Int32).toNatClampNeg x2).1 7 14 : Int32).toNatClampNeg x3).1 7 14) + 1))) ∧ (¬ x2 ≤ x4 → vp_in ((60 * x1) + x4) 240 ∧ Ct d M_X7_isWord [.int (st.1 46 ((60 * x1) + x4 : Int32).toNatClampNeg)] st (Qi fun v5 s4 => ((v5 = 0 → vp_in ((30 * (st.1 7 14)) + x4) 240 ∧ X κ 77 [(0, .ref 7), (1, .int x1), (2, .int x2), (3, .int x3), (4, .int (x4 + 1))] [] (xup s4 40 ((30 * (st.1 7 14)) + x4 : Int32).toNatClampNeg ((-1)))) ∧ (¬ v5 = 0 → vp_in ((30 * (st.1 7 14)) + x4) 240 ∧ X κ 77 [(0, .ref 7), (1, .int x1), (2, .int x2), (3, .int x3), (4, .int (x4 + 1))] [] (xup s4 40 ((30 * (st.1 7 14)) + x4 : Int32).toNatClampNeg (st.1 46 ((60 * x1) + x4 : Int32).toNatClampNeg)))))))) : X κ 77 [(0, .ref 7), (1, .int x1), (2, .int x2), (3, .int x3), (4, .int x4)] [] st := by
  refine X_iload C dX7_list_77 (j := 4) rfl ?_
  refine X_iload_n C dX7_list_79 rfl (j := 2) rfl ?_
  refine X_icmp_ge C dX7_list_80 (tgt := 132) (by decide) (fun c => ?_) (fun c => ?_)
  · replace h := h.1 c
    refine X_aload_n C dX7_list_132 rfl (j := 0) rfl ?_
    refine X_getR C sh_7 rfl fw_RX7_45 dX7_list_133 ?_
    refine X_aload_n C dX7_list_136 rfl (j := 0) rfl ?_
    refine X_getI C sh_7 rfl fw_RX7_180 dX7_list_137 ?_
    refine X_iload_n C dX7_list_140 rfl (j := 2) rfl ?_
    obtain ⟨g1, h⟩ := h
    refine X_iast C sh_38 g1 dX7_list_141 ?_
    refine X_aload_n C dX7_list_142 rfl (j := 0) rfl ?_
    refine X_getR C sh_7 rfl fw_RX7_48 dX7_list_143 ?_
    refine X_aload_n C dX7_list_146 rfl (j := 0) rfl ?_
    refine X_getI C sh_7 rfl fw_RX7_180 dX7_list_147 ?_
    refine X_iload_n C dX7_list_150 rfl (j := 3) rfl ?_
    obtain ⟨g2, h⟩ := h
    refine X_iast C sh_39 g2 dX7_list_151 ?_
    refine X_aload_n C dX7_list_152 rfl (j := 0) rfl ?_
    refine X_dup C rfl dX7_list_153 ?_
    refine X_getI C sh_7 rfl fw_RX7_180 dX7_list_154 ?_
    refine X_iconst C (v := 1) (by decide) dX7_list_157 ?_
    refine X_iadd C dX7_list_158 ?_
    refine X_putI C sh_7 rfl fp_RX7_180 dX7_list_159 ?_
    refine X_aload_n C dX7_list_162 rfl (j := 0) rfl ?_
    refine X_getI C sh_7 rfl fw_RX7_180 dX7_list_163 ?_
    refine X_iconst C (v := 1) (by decide) dX7_list_166 ?_
    refine X_isub C dX7_list_167 ?_
    exact X_iret C Z rfl dX7_list_168 h
  · replace h := h.2 c
    refine X_aload_n C dX7_list_83 rfl (j := 0) rfl ?_
    refine X_getR C sh_7 rfl fw_RX7_69 dX7_list_84 ?_
    refine X_bipush C (v := 60) (by decide) dX7_list_87 ?_
    refine X_iload_n C dX7_list_89 rfl (j := 1) rfl ?_
    refine X_imul C dX7_list_90 ?_
    refine X_iload C dX7_list_91 (j := 4) rfl ?_
    refine X_iadd C dX7_list_93 ?_
    obtain ⟨g3, h⟩ := h
    refine X_iald C sh_46 g3 dX7_list_94 ?_
    refine X_istore C dX7_list_95 (by decide) (L' := [(5, .int (st.1 46 ((60 * x1) + x4 : Int32).toNatClampNeg)), (0, .ref 7), (1, .int x1), (2, .int x2), (3, .int x3), (4, .int x4)]) rfl ?_
    refine X_aload_n C dX7_list_97 rfl (j := 1) rfl ?_
    refine X_getR C sh_7 rfl fw_RX7_51 dX7_list_98 ?_
    refine X_bipush C (v := 30) (by decide) dX7_list_101 ?_
    refine X_aload_n C dX7_list_103 rfl (j := 1) rfl ?_
    refine X_getI C sh_7 rfl fw_RX7_180 dX7_list_104 ?_
    refine X_imul C dX7_list_107 ?_
    refine X_iload C dX7_list_108 (j := 5) rfl ?_
    refine X_iadd C dX7_list_110 ?_
    refine X_iload C dX7_list_111 (j := 0) rfl ?_
    refine X_callS C dX7_list_113 pw_RX7_90 (as := [.int (st.1 46 ((60 * x1) + x4 : Int32).toNatClampNeg)]) (S := [.int ((30 * (st.1 7 14)) + x4), .ref 40]) rfl rfl (Nat.le_of_ble_eq_true rfl) (Ct_mono h ?_)
    rintro _ s4 ⟨v5, rfl, h⟩
    show X κ 116 [(5, .int (st.1 46 ((60 * x1) + x4 : Int32).toNatClampNeg)), (0, .ref 7), (1, .int x1), (2, .int x2), (3, .int x3), (4, .int x4)] [.int v5, .int ((30 * (st.1 7 14)) + x4), .ref 40] s4
    refine X_if_eq C dX7_list_116 (tgt := 124) (by decide) (fun c => ?_) (fun c => ?_)
    · replace h := h.1 c
      refine X_iconst C (v := (-1)) (by decide) dX7_list_124 ?_
      obtain ⟨g6, h⟩ := h
      refine X_iast C sh_40 g6 dX7_list_125 ?_
      refine X_iinc C dX7_list_126 (j := 5) rfl (v := x4 + 1) rfl (by decide) (L' := [(4, .int (x4 + 1)), (5, .int (st.1 46 ((60 * x1) + x4 : Int32).toNatClampNeg)), (0, .ref 7), (1, .int x1), (2, .int x2), (3, .int x3)]) rfl ?_
      refine X_goto C dX7_list_129 (tgt := 77) (by decide) ?_
      refine X_loc [2, 3, 4, 5, 0] rfl ?_
      exact h
    · replace h := h.2 c
      refine X_iload C dX7_list_119 (j := 0) rfl ?_
      refine X_goto C dX7_list_121 (tgt := 125) (by decide) ?_
      obtain ⟨g7, h⟩ := h
      refine X_iast C sh_40 g7 dX7_list_125 ?_
      refine X_iinc C dX7_list_126 (j := 5) rfl (v := x4 + 1) rfl (by decide) (L' := [(4, .int (x4 + 1)), (5, .int (st.1 46 ((60 * x1) + x4 : Int32).toNatClampNeg)), (0, .ref 7), (1, .int x1), (2, .int x2), (3, .int x3)]) rfl ?_
      refine X_goto C dX7_list_129 (tgt := 77) (by decide) ?_
      refine X_loc [2, 3, 4, 5, 0] rfl ?_
      exact h
set_option maxHeartbeats 4000000 in
set_option maxRecDepth 100000 in
theorem eX7_list {d : Nat} {Q : Option Value → xSt → Prop} (a1 : Int32) (a2 : Int32) (a3 : Int32) (st : xSt) (h : ∀ κ : xK, Cx κ M_X7_list (d + 1) → xR κ Q → Ct d M_X7_isSheet [.int a1] st (Qi fun v2 s1 => ((v2 = 0 → Q (some (.int ((-2)))) s1) ∧ (¬ v2 = 0 → Ct d M_X7_in [.int a2, .int 0, .int 30] s1 (Qi fun v4 s3 => ((v4 = 0 → Q (some (.int ((-2)))) s3) ∧ (¬ v4 = 0 → Ct d M_X7_in [.int a3, .int 0, .int 3000] s3 (Qi fun v6 s5 => ((¬ v6 = 0 → vp_in a1 4 ∧ ((¬ (s5.1 43 (a1 : Int32).toNatClampNeg) = 0 → vp_in a1 4 ∧ ((a2 ≤ (s5.1 45 (a1 : Int32).toNatClampNeg) → ((¬ (s5.1 7 14) = 8 → X κ 77 [(0, .ref 7), (1, .int a1), (2, .int a2), (3, .int a3), (4, .int 0)] [] s5) ∧ ((s5.1 7 14) = 8 → Q (some (.int ((-4)))) s5))) ∧ (¬ a2 ≤ (s5.1 45 (a1 : Int32).toNatClampNeg) → Ct d M_X7_meets [.ref 7, .int 2] s5 (Qi fun v10 s9 => Q (some (.int v10)) s9)))) ∧ ((s5.1 43 (a1 : Int32).toNatClampNeg) = 0 → Ct d M_X7_meets [.ref 7, .int 1] s5 (Qi fun v12 s11 => Q (some (.int v12)) s11)))) ∧ (v6 = 0 → Q (some (.int ((-2)))) s5)))))))))) : Ct (d + 1) M_X7_list [.ref 7, .int a1, .int a2, .int a3] st Q := by
  refine Ct_of (by decide +kernel) (Nat.le_of_ble_eq_true rfl) (fun κ C Z => ?_)
  replace h := h κ C Z
  show X κ 0 [(0, .ref 7), (1, .int a1), (2, .int a2), (3, .int a3)] [] st
  refine X_iload_n C dX7_list_0 rfl (j := 1) rfl ?_
  refine X_callS C dX7_list_1 pw_RX7_82 (as := [.int a1]) (S := []) rfl rfl (Nat.le_of_ble_eq_true rfl) (Ct_mono h ?_)
  rintro _ s1 ⟨v2, rfl, h⟩
  show X κ 4 [(0, .ref 7), (1, .int a1), (2, .int a2), (3, .int a3)] [.int v2] s1
  refine X_if_eq C dX7_list_4 (tgt := 28) (by decide) (fun c => ?_) (fun c => ?_)
  · replace h := h.1 c
    refine X_bipush C (v := (-2)) (by decide) dX7_list_28 ?_
    exact X_iret C Z rfl dX7_list_30 h
  · replace h := h.2 c
    refine X_iload_n C dX7_list_7 rfl (j := 2) rfl ?_
    refine X_iconst C (v := 0) (by decide) dX7_list_8 ?_
    refine X_bipush C (v := 30) (by decide) dX7_list_9 ?_
    refine X_callS C dX7_list_11 pw_RX7_75 (as := [.int a2, .int 0, .int 30]) (S := []) rfl rfl (Nat.le_of_ble_eq_true rfl) (Ct_mono h ?_)
    rintro _ s3 ⟨v4, rfl, h⟩
    show X κ 14 [(0, .ref 7), (1, .int a1), (2, .int a2), (3, .int a3)] [.int v4] s3
    refine X_if_eq C dX7_list_14 (tgt := 28) (by decide) (fun c => ?_) (fun c => ?_)
    · replace h := h.1 c
      refine X_bipush C (v := (-2)) (by decide) dX7_list_28 ?_
      exact X_iret C Z rfl dX7_list_30 h
    · replace h := h.2 c
      refine X_iload_n C dX7_list_17 rfl (j := 3) rfl ?_
      refine X_iconst C (v := 0) (by decide) dX7_list_18 ?_
      refine X_sipush C (v := 3000) (by decide) dX7_list_19 ?_
      refine X_callS C dX7_list_22 pw_RX7_75 (as := [.int a3, .int 0, .int 3000]) (S := []) rfl rfl (Nat.le_of_ble_eq_true rfl) (Ct_mono h ?_)
      rintro _ s5 ⟨v6, rfl, h⟩
      show X κ 25 [(0, .ref 7), (1, .int a1), (2, .int a2), (3, .int a3)] [.int v6] s5
      refine X_if_ne C dX7_list_25 (tgt := 31) (by decide) (fun c => ?_) (fun c => ?_)
      · replace h := h.1 c
        refine X_aload_n C dX7_list_31 rfl (j := 0) rfl ?_
        refine X_getR C sh_7 rfl fw_RX7_60 dX7_list_32 ?_
        refine X_iload_n C dX7_list_35 rfl (j := 1) rfl ?_
        obtain ⟨g7, h⟩ := h
        refine X_zald C sh_43 g7 dX7_list_36 ?_
        refine X_if_ne C dX7_list_37 (tgt := 46) (by decide) (fun c => ?_) (fun c => ?_)
        · replace h := h.1 c
          refine X_aload_n C dX7_list_46 rfl (j := 0) rfl ?_
          refine X_getR C sh_7 rfl fw_RX7_66 dX7_list_47 ?_
          refine X_iload_n C dX7_list_50 rfl (j := 1) rfl ?_
          obtain ⟨g8, h⟩ := h
          refine X_iald C sh_45 g8 dX7_list_51 ?_
          refine X_iload_n C dX7_list_52 rfl (j := 2) rfl ?_
          refine X_icmp_ge C dX7_list_53 (tgt := 62) (by decide) (fun c => ?_) (fun c => ?_)
          · replace h := h.1 c
            refine X_aload_n C dX7_list_62 rfl (j := 0) rfl ?_
            refine X_getI C sh_7 rfl fw_RX7_180 dX7_list_63 ?_
            refine X_bipush C (v := 8) (by decide) dX7_list_66 ?_
            refine X_icmp_ne C dX7_list_68 (tgt := 74) (by decide) (fun c => ?_) (fun c => ?_)
            · replace h := h.1 c
              refine X_iconst C (v := 0) (by decide) dX7_list_74 ?_
              refine X_istore C dX7_list_75 (by decide) (L' := [(4, .int 0), (0, .ref 7), (1, .int a1), (2, .int a2), (3, .int a3)]) rfl ?_
              refine X_loc [1, 2, 3, 4, 0] rfl ?_
              exact h
            · replace h := h.2 c
              refine X_bipush C (v := (-4)) (by decide) dX7_list_71 ?_
              exact X_iret C Z rfl dX7_list_73 h
          · replace h := h.2 c
            refine X_aload_n C dX7_list_56 rfl (j := 0) rfl ?_
            refine X_iconst C (v := 2) (by decide) dX7_list_57 ?_
            refine X_callV C dX7_list_58 pw_RX7_86 (b := 7) (as := [.int 2]) (S := []) sh_7 rfl rfl rfl (Nat.le_of_ble_eq_true rfl) (Ct_mono h ?_)
            rintro _ s9 ⟨v10, rfl, h⟩
            show X κ 61 [(0, .ref 7), (1, .int a1), (2, .int a2), (3, .int a3)] [.int v10] s9
            exact X_iret C Z rfl dX7_list_61 h
        · replace h := h.2 c
          refine X_aload_n C dX7_list_40 rfl (j := 0) rfl ?_
          refine X_iconst C (v := 1) (by decide) dX7_list_41 ?_
          refine X_callV C dX7_list_42 pw_RX7_86 (b := 7) (as := [.int 1]) (S := []) sh_7 rfl rfl rfl (Nat.le_of_ble_eq_true rfl) (Ct_mono h ?_)
          rintro _ s11 ⟨v12, rfl, h⟩
          show X κ 45 [(0, .ref 7), (1, .int a1), (2, .int a2), (3, .int a3)] [.int v12] s11
          exact X_iret C Z rfl dX7_list_45 h
      · replace h := h.2 c
        refine X_bipush C (v := (-2)) (by decide) dX7_list_28 ?_
        exact X_iret C Z rfl dX7_list_30 h
set_option maxHeartbeats 4000000 in
set_option maxRecDepth 100000 in
theorem eX7_word {d : Nat} {Q : Option Value → xSt → Prop} (a1 : Int32) (a2 : Int32) (st : xSt) (h : Ct d M_X7_isList [.ref 7, .int a1] st (Qi fun v2 s1 => ((v2 = 0 → Q (some (.int ((-2)))) s1) ∧ (¬ v2 = 0 → vp_in a1 8 ∧ Ct d M_X7_in [.int a2, .int 0, .int ((s1.1 38 (a1 : Int32).toNatClampNeg) - 1)] s1 (Qi fun v5 s4 => ((v5 = 0 → Q (some (.int ((-2)))) s4) ∧ (¬ v5 = 0 → vp_in ((30 * a1) + a2) 240 ∧ Q (some (.int (s4.1 40 ((30 * a1) + a2 : Int32).toNatClampNeg))) s4))))))) : Ct (d + 1) M_X7_word [.ref 7, .int a1, .int a2] st Q := by
  refine Ct_of (by decide +kernel) (Nat.le_of_ble_eq_true rfl) (fun κ C Z => ?_)
  show X κ 0 [(0, .ref 7), (1, .int a1), (2, .int a2)] [] st
  refine X_aload_n C dX7_word_0 rfl (j := 0) rfl ?_
  refine X_iload_n C dX7_word_1 rfl (j := 1) rfl ?_
  refine X_callV C dX7_word_2 pw_RX7_183 (b := 7) (as := [.int a1]) (S := []) sh_7 rfl rfl rfl (Nat.le_of_ble_eq_true rfl) (Ct_mono h ?_)
  rintro _ s1 ⟨v2, rfl, h⟩
  show X κ 5 [(0, .ref 7), (1, .int a1), (2, .int a2)] [.int v2] s1
  refine X_if_eq C dX7_word_5 (tgt := 38) (by decide) (fun c => ?_) (fun c => ?_)
  · replace h := h.1 c
    refine X_bipush C (v := (-2)) (by decide) dX7_word_38 ?_
    exact X_iret C Z rfl dX7_word_40 h
  · replace h := h.2 c
    refine X_iload_n C dX7_word_8 rfl (j := 2) rfl ?_
    refine X_iconst C (v := 0) (by decide) dX7_word_9 ?_
    refine X_aload_n C dX7_word_10 rfl (j := 0) rfl ?_
    refine X_getR C sh_7 rfl fw_RX7_45 dX7_word_11 ?_
    refine X_iload_n C dX7_word_14 rfl (j := 1) rfl ?_
    obtain ⟨g3, h⟩ := h
    refine X_iald C sh_38 g3 dX7_word_15 ?_
    refine X_iconst C (v := 1) (by decide) dX7_word_16 ?_
    refine X_isub C dX7_word_17 ?_
    refine X_callS C dX7_word_18 pw_RX7_75 (as := [.int a2, .int 0, .int ((s1.1 38 (a1 : Int32).toNatClampNeg) - 1)]) (S := []) rfl rfl (Nat.le_of_ble_eq_true rfl) (Ct_mono h ?_)
    rintro _ s4 ⟨v5, rfl, h⟩
    show X κ 21 [(0, .ref 7), (1, .int a1), (2, .int a2)] [.int v5] s4
    refine X_if_eq C dX7_word_21 (tgt := 38) (by decide) (fun c => ?_) (fun c => ?_)
    · replace h := h.1 c
      refine X_bipush C (v := (-2)) (by decide) dX7_word_38 ?_
      exact X_iret C Z rfl dX7_word_40 h
    · replace h := h.2 c
      refine X_aload_n C dX7_word_24 rfl (j := 0) rfl ?_
      refine X_getR C sh_7 rfl fw_RX7_51 dX7_word_25 ?_
      refine X_bipush C (v := 30) (by decide) dX7_word_28 ?_
      refine X_iload_n C dX7_word_30 rfl (j := 1) rfl ?_
      refine X_imul C dX7_word_31 ?_
      refine X_iload_n C dX7_word_32 rfl (j := 2) rfl ?_
      refine X_iadd C dX7_word_33 ?_
      obtain ⟨g6, h⟩ := h
      refine X_iald C sh_40 g6 dX7_word_34 ?_
      refine X_goto C dX7_word_35 (tgt := 40) (by decide) ?_
      exact X_iret C Z rfl dX7_word_40 h
set_option maxHeartbeats 4000000 in
set_option maxRecDepth 100000 in
theorem bX7_tens_6 {κ : xK} {d : Nat} {Q : Option Value → xSt → Prop} (C : Cx κ M_X7_tens (d)) (Z : xR κ Q) (x1 : Int32) (x2 : Int32) (x3 : Int32) (x4 : Int32) (st : xSt) (h : vp_in x1 8 ∧ (((st.1 38 (x1 : Int32).toNatClampNeg) ≤ x4 → Q (some (.int x3)) st) ∧ (¬ (st.1 38 (x1 : Int32).toNatClampNeg) ≤ x4 → vp_in ((30 * x1) + x4) 240 ∧ vp_in ((30 * x1) + (x4 - x4 / 10 * 10)) 240 ∧ (((st.1 40 ((30 * x1) + x4 : Int32).toNatClampNeg) = ((-1)) → X κ 6 [(0, .ref 7), (1, .int x1), (2, .int x2), (3, .int (x3 + 0)), (4, .int (x4 + 1))] [] st) ∧ (¬ (st.1 40 ((30 * x1) + x4 : Int32).toNatClampNeg) = ((-1)) → (((st.1 40 ((30 * x1) + (x4 - x4 / 10 * 10) : Int32).toNatClampNeg) = ((-1)) → X κ 6 [(0, .ref 7), (1, .int x1), (2, .int x2), (3, .int (x3 + 0)), (4, .int (x4 + 1))] [] st) ∧ (¬ (st.1 40 ((30 * x1) + (x4 - x4 / 10 * 10) : Int32).toNatClampNeg) = ((-1)) → ((x2 = 0 → X κ 6 [(0, .ref 7), (1, .int x1), (2, .int x2), (3, .int (x3 + 1)), (4, .int (x4 + 1))] [] st) ∧ (¬ x2 = 0 → ((¬ (st.1 40 ((30 * x1) + x4 : Int32).toNatClampNeg) = (st.1 40 ((30 * x1) + (x4 - x4 / 10 * 10) : Int32).toNatClampNeg) → X κ 6 [(0, .ref 7), (1, .int x1), (2, .int x2), (3, .int (x3 + 0)), (4, .int (x4 + 1))] [] st) ∧ ((st.1 40 ((30 * x1) + x4 : Int32).toNatClampNeg) = (st.1 40 ((30 * x1) + (x4 - x4 / 10 * 10) : Int32).toNatClampNeg) → X κ 6 [(0, .ref 7), (1, .int x1), (2, .int x2), (3, .int (x3 + 1)), (4, .int (x4 + 1))] [] st))))))))))) : X κ 6 [(0, .ref 7), (1, .int x1), (2, .int x2), (3, .int x3), (4, .int x4)] [] st := by
  refine X_iload C dX7_tens_6 (j := 4) rfl ?_
  refine X_aload_n C dX7_tens_8 rfl (j := 0) rfl ?_
  refine X_getR C sh_7 rfl fw_RX7_45 dX7_tens_9 ?_
  refine X_iload_n C dX7_tens_12 rfl (j := 1) rfl ?_
  obtain ⟨g1, h⟩ := h
  refine X_iald C sh_38 g1 dX7_tens_13 ?_
  refine X_icmp_ge C dX7_tens_14 (tgt := 97) (by decide) (fun c => ?_) (fun c => ?_)
  · replace h := h.1 c
    refine X_iload_n C dX7_tens_97 rfl (j := 3) rfl ?_
    exact X_iret C Z rfl dX7_tens_98 h
  · replace h := h.2 c
    refine X_aload_n C dX7_tens_17 rfl (j := 0) rfl ?_
    refine X_getR C sh_7 rfl fw_RX7_51 dX7_tens_18 ?_
    refine X_bipush C (v := 30) (by decide) dX7_tens_21 ?_
    refine X_iload_n C dX7_tens_23 rfl (j := 1) rfl ?_
    refine X_imul C dX7_tens_24 ?_
    refine X_iload C dX7_tens_25 (j := 4) rfl ?_
    refine X_iadd C dX7_tens_27 ?_
    obtain ⟨g2, h⟩ := h
    refine X_iald C sh_40 g2 dX7_tens_28 ?_
    refine X_istore C dX7_tens_29 (by decide) (L' := [(5, .int (st.1 40 ((30 * x1) + x4 : Int32).toNatClampNeg)), (0, .ref 7), (1, .int x1), (2, .int x2), (3, .int x3), (4, .int x4)]) rfl ?_
    refine X_aload_n C dX7_tens_31 rfl (j := 1) rfl ?_
    refine X_getR C sh_7 rfl fw_RX7_51 dX7_tens_32 ?_
    refine X_bipush C (v := 30) (by decide) dX7_tens_35 ?_
    refine X_iload_n C dX7_tens_37 rfl (j := 2) rfl ?_
    refine X_imul C dX7_tens_38 ?_
    refine X_iload C dX7_tens_39 (j := 5) rfl ?_
    refine X_bipush C (v := 10) (by decide) dX7_tens_41 ?_
    refine X_irem C (by decide) dX7_tens_43 ?_
    refine X_iadd C dX7_tens_44 ?_
    obtain ⟨g3, h⟩ := h
    refine X_iald C sh_40 g3 dX7_tens_45 ?_
    refine X_istore C dX7_tens_46 (by decide) (L' := [(6, .int (st.1 40 ((30 * x1) + (x4 - x4 / 10 * 10) : Int32).toNatClampNeg)), (5, .int (st.1 40 ((30 * x1) + x4 : Int32).toNatClampNeg)), (0, .ref 7), (1, .int x1), (2, .int x2), (3, .int x3), (4, .int x4)]) rfl ?_
    refine X_iload C dX7_tens_48 (j := 1) rfl ?_
    refine X_iconst C (v := (-1)) (by decide) dX7_tens_50 ?_
    refine X_icmp_eq C dX7_tens_51 (tgt := 64) (by decide) (fun c => ?_) (fun c => ?_)
    · replace h := h.1 c
      refine X_iconst C (v := 0) (by decide) dX7_tens_64 ?_
      refine X_istore C dX7_tens_65 (by decide) (L' := [(7, .int 0), (6, .int (st.1 40 ((30 * x1) + (x4 - x4 / 10 * 10) : Int32).toNatClampNeg)), (5, .int (st.1 40 ((30 * x1) + x4 : Int32).toNatClampNeg)), (0, .ref 7), (1, .int x1), (2, .int x2), (3, .int x3), (4, .int x4)]) rfl ?_
      refine X_iload_n C dX7_tens_67 rfl (j := 6) rfl ?_
      refine X_iload C dX7_tens_68 (j := 0) rfl ?_
      refine X_if_eq C dX7_tens_70 (tgt := 88) (by decide) (fun _ => ?_) (fun c => absurd c (by decide))
      refine X_iconst C (v := 0) (by decide) dX7_tens_88 ?_
      refine X_iadd C dX7_tens_89 ?_
      refine X_istore_n C dX7_tens_90 rfl (by decide) (L' := [(3, .int (x3 + 0)), (7, .int 0), (6, .int (st.1 40 ((30 * x1) + (x4 - x4 / 10 * 10) : Int32).toNatClampNeg)), (5, .int (st.1 40 ((30 * x1) + x4 : Int32).toNatClampNeg)), (0, .ref 7), (1, .int x1), (2, .int x2), (4, .int x4)]) rfl ?_
      refine X_iinc C dX7_tens_91 (j := 7) rfl (v := x4 + 1) rfl (by decide) (L' := [(4, .int (x4 + 1)), (3, .int (x3 + 0)), (7, .int 0), (6, .int (st.1 40 ((30 * x1) + (x4 - x4 / 10 * 10) : Int32).toNatClampNeg)), (5, .int (st.1 40 ((30 * x1) + x4 : Int32).toNatClampNeg)), (0, .ref 7), (1, .int x1), (2, .int x2)]) rfl ?_
      refine X_goto C dX7_tens_94 (tgt := 6) (by decide) ?_
      refine X_loc [5, 6, 7, 1, 0] rfl ?_
      exact h
    · replace h := h.2 c
      refine X_iload C dX7_tens_54 (j := 0) rfl ?_
      refine X_iconst C (v := (-1)) (by decide) dX7_tens_56 ?_
      refine X_icmp_eq C dX7_tens_57 (tgt := 64) (by decide) (fun c => ?_) (fun c => ?_)
      · replace h := h.1 c
        refine X_iconst C (v := 0) (by decide) dX7_tens_64 ?_
        refine X_istore C dX7_tens_65 (by decide) (L' := [(7, .int 0), (6, .int (st.1 40 ((30 * x1) + (x4 - x4 / 10 * 10) : Int32).toNatClampNeg)), (5, .int (st.1 40 ((30 * x1) + x4 : Int32).toNatClampNeg)), (0, .ref 7), (1, .int x1), (2, .int x2), (3, .int x3), (4, .int x4)]) rfl ?_
        refine X_iload_n C dX7_tens_67 rfl (j := 6) rfl ?_
        refine X_iload C dX7_tens_68 (j := 0) rfl ?_
        refine X_if_eq C dX7_tens_70 (tgt := 88) (by decide) (fun _ => ?_) (fun c => absurd c (by decide))
        refine X_iconst C (v := 0) (by decide) dX7_tens_88 ?_
        refine X_iadd C dX7_tens_89 ?_
        refine X_istore_n C dX7_tens_90 rfl (by decide) (L' := [(3, .int (x3 + 0)), (7, .int 0), (6, .int (st.1 40 ((30 * x1) + (x4 - x4 / 10 * 10) : Int32).toNatClampNeg)), (5, .int (st.1 40 ((30 * x1) + x4 : Int32).toNatClampNeg)), (0, .ref 7), (1, .int x1), (2, .int x2), (4, .int x4)]) rfl ?_
        refine X_iinc C dX7_tens_91 (j := 7) rfl (v := x4 + 1) rfl (by decide) (L' := [(4, .int (x4 + 1)), (3, .int (x3 + 0)), (7, .int 0), (6, .int (st.1 40 ((30 * x1) + (x4 - x4 / 10 * 10) : Int32).toNatClampNeg)), (5, .int (st.1 40 ((30 * x1) + x4 : Int32).toNatClampNeg)), (0, .ref 7), (1, .int x1), (2, .int x2)]) rfl ?_
        refine X_goto C dX7_tens_94 (tgt := 6) (by decide) ?_
        refine X_loc [5, 6, 7, 1, 0] rfl ?_
        exact h
      · replace h := h.2 c
        refine X_iconst C (v := 1) (by decide) dX7_tens_60 ?_
        refine X_goto C dX7_tens_61 (tgt := 65) (by decide) ?_
        refine X_istore C dX7_tens_65 (by decide) (L' := [(7, .int 1), (6, .int (st.1 40 ((30 * x1) + (x4 - x4 / 10 * 10) : Int32).toNatClampNeg)), (5, .int (st.1 40 ((30 * x1) + x4 : Int32).toNatClampNeg)), (0, .ref 7), (1, .int x1), (2, .int x2), (3, .int x3), (4, .int x4)]) rfl ?_
        refine X_iload_n C dX7_tens_67 rfl (j := 6) rfl ?_
        refine X_iload C dX7_tens_68 (j := 0) rfl ?_
        refine X_if_eq C dX7_tens_70 (tgt := 88) (by decide) (fun c => absurd c (by decide)) (fun _ => ?_)
        refine X_iload_n C dX7_tens_73 rfl (j := 5) rfl ?_
        refine X_if_eq C dX7_tens_74 (tgt := 84) (by decide) (fun c => ?_) (fun c => ?_)
        · replace h := h.1 c
          refine X_iconst C (v := 1) (by decide) dX7_tens_84 ?_
          refine X_goto C dX7_tens_85 (tgt := 89) (by decide) ?_
          refine X_iadd C dX7_tens_89 ?_
          refine X_istore_n C dX7_tens_90 rfl (by decide) (L' := [(3, .int (x3 + 1)), (7, .int 1), (6, .int (st.1 40 ((30 * x1) + (x4 - x4 / 10 * 10) : Int32).toNatClampNeg)), (5, .int (st.1 40 ((30 * x1) + x4 : Int32).toNatClampNeg)), (0, .ref 7), (1, .int x1), (2, .int x2), (4, .int x4)]) rfl ?_
          refine X_iinc C dX7_tens_91 (j := 7) rfl (v := x4 + 1) rfl (by decide) (L' := [(4, .int (x4 + 1)), (3, .int (x3 + 1)), (7, .int 1), (6, .int (st.1 40 ((30 * x1) + (x4 - x4 / 10 * 10) : Int32).toNatClampNeg)), (5, .int (st.1 40 ((30 * x1) + x4 : Int32).toNatClampNeg)), (0, .ref 7), (1, .int x1), (2, .int x2)]) rfl ?_
          refine X_goto C dX7_tens_94 (tgt := 6) (by decide) ?_
          refine X_loc [5, 6, 7, 1, 0] rfl ?_
          exact h
        · replace h := h.2 c
          refine X_iload C dX7_tens_77 (j := 2) rfl ?_
          refine X_iload C dX7_tens_79 (j := 1) rfl ?_
          refine X_icmp_ne C dX7_tens_81 (tgt := 88) (by decide) (fun c => ?_) (fun c => ?_)
          · replace h := h.1 c
            refine X_iconst C (v := 0) (by decide) dX7_tens_88 ?_
            refine X_iadd C dX7_tens_89 ?_
            refine X_istore_n C dX7_tens_90 rfl (by decide) (L' := [(3, .int (x3 + 0)), (7, .int 1), (6, .int (st.1 40 ((30 * x1) + (x4 - x4 / 10 * 10) : Int32).toNatClampNeg)), (5, .int (st.1 40 ((30 * x1) + x4 : Int32).toNatClampNeg)), (0, .ref 7), (1, .int x1), (2, .int x2), (4, .int x4)]) rfl ?_
            refine X_iinc C dX7_tens_91 (j := 7) rfl (v := x4 + 1) rfl (by decide) (L' := [(4, .int (x4 + 1)), (3, .int (x3 + 0)), (7, .int 1), (6, .int (st.1 40 ((30 * x1) + (x4 - x4 / 10 * 10) : Int32).toNatClampNeg)), (5, .int (st.1 40 ((30 * x1) + x4 : Int32).toNatClampNeg)), (0, .ref 7), (1, .int x1), (2, .int x2)]) rfl ?_
            refine X_goto C dX7_tens_94 (tgt := 6) (by decide) ?_
            refine X_loc [5, 6, 7, 1, 0] rfl ?_
            exact h
          · replace h := h.2 c
            refine X_iconst C (v := 1) (by decide) dX7_tens_84 ?_
            refine X_goto C dX7_tens_85 (tgt := 89) (by decide) ?_
            refine X_iadd C dX7_tens_89 ?_
            refine X_istore_n C dX7_tens_90 rfl (by decide) (L' := [(3, .int (x3 + 1)), (7, .int 1), (6, .int (st.1 40 ((30 * x1) + (x4 - x4 / 10 * 10) : Int32).toNatClampNeg)), (5, .int (st.1 40 ((30 * x1) + x4 : Int32).toNatClampNeg)), (0, .ref 7), (1, .int x1), (2, .int x2), (4, .int x4)]) rfl ?_
            refine X_iinc C dX7_tens_91 (j := 7) rfl (v := x4 + 1) rfl (by decide) (L' := [(4, .int (x4 + 1)), (3, .int (x3 + 1)), (7, .int 1), (6, .int (st.1 40 ((30 * x1) + (x4 - x4 / 10 * 10) : Int32).toNatClampNeg)), (5, .int (st.1 40 ((30 * x1) + x4 : Int32).toNatClampNeg)), (0, .ref 7), (1, .int x1), (2, .int x2)]) rfl ?_
            refine X_goto C dX7_tens_94 (tgt := 6) (by decide) ?_
            refine X_loc [5, 6, 7, 1, 0] rfl ?_
            exact h
set_option maxHeartbeats 4000000 in
set_option maxRecDepth 100000 in
theorem eX7_tens {d : Nat} {Q : Option Value → xSt → Prop} (a1 : Int32) (a2 : Int32) (st : xSt) (h : ∀ κ : xK, Cx κ M_X7_tens (d) → xR κ Q → X κ 6 [(0, .ref 7), (1, .int a1), (2, .int a2), (3, .int 0), (4, .int 10)] [] st) : Ct (d) M_X7_tens [.ref 7, .int a1, .int a2] st Q := by
  refine Ct_of (by decide +kernel) (Nat.le_of_ble_eq_true rfl) (fun κ C Z => ?_)
  replace h := h κ C Z
  show X κ 0 [(0, .ref 7), (1, .int a1), (2, .int a2)] [] st
  refine X_iconst C (v := 0) (by decide) dX7_tens_0 ?_
  refine X_istore_n C dX7_tens_1 rfl (by decide) (L' := [(3, .int 0), (0, .ref 7), (1, .int a1), (2, .int a2)]) rfl ?_
  refine X_bipush C (v := 10) (by decide) dX7_tens_2 ?_
  refine X_istore C dX7_tens_4 (by decide) (L' := [(4, .int 10), (3, .int 0), (0, .ref 7), (1, .int a1), (2, .int a2)]) rfl ?_
  refine X_loc [2, 3, 4, 1, 0] rfl ?_
  exact h
set_option maxHeartbeats 4000000 in
set_option maxRecDepth 100000 in
theorem bX7_listOf_53 {κ : xK} {d : Nat} {Q : Option Value → xSt → Prop} (C : Cx κ M_X7_listOf (d + 1)) (Z : xR κ Q) (x1 : Int32) (x3 : Int32) (x4 : Int32) (st : xSt) (h : vp_in x1 8 ∧ (((st.1 38 (x1 : Int32).toNatClampNeg) ≤ x4 → Q (some (.int x3)) st) ∧ (¬ (st.1 38 (x1 : Int32).toNatClampNeg) ≤ x4 → vp_in ((30 * x1) + x4) 240 ∧ ((¬ (st.1 40 ((30 * x1) + x4 : Int32).toNatClampNeg) = ((-1)) → X κ 53 [(0, .ref 7), (1, .int x1), (3, .int (x3 + 0)), (4, .int (x4 + 1))] [] st) ∧ ((st.1 40 ((30 * x1) + x4 : Int32).toNatClampNeg) = ((-1)) → X κ 53 [(0, .ref 7), (1, .int x1), (3, .int (x3 + 1)), (4, .int (x4 + 1))] [] st))))) : X κ 53 [(0, .ref 7), (1, .int x1), (3, .int x3), (4, .int x4)] [] st := by
  refine X_iload C dX7_listOf_53 (j := 3) rfl ?_
  refine X_aload_n C dX7_listOf_55 rfl (j := 0) rfl ?_
  refine X_getR C sh_7 rfl fw_RX7_45 dX7_listOf_56 ?_
  refine X_iload_n C dX7_listOf_59 rfl (j := 1) rfl ?_
  obtain ⟨g1, h⟩ := h
  refine X_iald C sh_38 g1 dX7_listOf_60 ?_
  refine X_icmp_ge C dX7_listOf_61 (tgt := 94) (by decide) (fun c => ?_) (fun c => ?_)
  · replace h := h.1 c
    refine X_iload_n C dX7_listOf_94 rfl (j := 2) rfl ?_
    exact X_iret C Z rfl dX7_listOf_95 h
  · replace h := h.2 c
    refine X_iload_n C dX7_listOf_64 rfl (j := 2) rfl ?_
    refine X_aload_n C dX7_listOf_65 rfl (j := 0) rfl ?_
    refine X_getR C sh_7 rfl fw_RX7_51 dX7_listOf_66 ?_
    refine X_bipush C (v := 30) (by decide) dX7_listOf_69 ?_
    refine X_iload_n C dX7_listOf_71 rfl (j := 1) rfl ?_
    refine X_imul C dX7_listOf_72 ?_
    refine X_iload C dX7_listOf_73 (j := 3) rfl ?_
    refine X_iadd C dX7_listOf_75 ?_
    obtain ⟨g2, h⟩ := h
    refine X_iald C sh_40 g2 dX7_listOf_76 ?_
    refine X_iconst C (v := (-1)) (by decide) dX7_listOf_77 ?_
    refine X_icmp_ne C dX7_listOf_78 (tgt := 85) (by decide) (fun c => ?_) (fun c => ?_)
    · replace h := h.1 c
      refine X_iconst C (v := 0) (by decide) dX7_listOf_85 ?_
      refine X_iadd C dX7_listOf_86 ?_
      refine X_istore_n C dX7_listOf_87 rfl (by decide) (L' := [(3, .int (x3 + 0)), (0, .ref 7), (1, .int x1), (4, .int x4)]) rfl ?_
      refine X_iinc C dX7_listOf_88 (j := 3) rfl (v := x4 + 1) rfl (by decide) (L' := [(4, .int (x4 + 1)), (3, .int (x3 + 0)), (0, .ref 7), (1, .int x1)]) rfl ?_
      refine X_goto C dX7_listOf_91 (tgt := 53) (by decide) ?_
      refine X_loc [2, 3, 1, 0] rfl ?_
      exact h
    · replace h := h.2 c
      refine X_iconst C (v := 1) (by decide) dX7_listOf_81 ?_
      refine X_goto C dX7_listOf_82 (tgt := 86) (by decide) ?_
      refine X_iadd C dX7_listOf_86 ?_
      refine X_istore_n C dX7_listOf_87 rfl (by decide) (L' := [(3, .int (x3 + 1)), (0, .ref 7), (1, .int x1), (4, .int x4)]) rfl ?_
      refine X_iinc C dX7_listOf_88 (j := 3) rfl (v := x4 + 1) rfl (by decide) (L' := [(4, .int (x4 + 1)), (3, .int (x3 + 1)), (0, .ref 7), (1, .int x1)]) rfl ?_
      refine X_goto C dX7_listOf_91 (tgt := 53) (by decide) ?_
      refine X_loc [2, 3, 1, 0] rfl ?_
      exact h
set_option maxHeartbeats 4000000 in
set_option maxRecDepth 100000 in
theorem eX7_listOf {d : Nat} {Q : Option Value → xSt → Prop} (a1 : Int32) (a2 : Int32) (st : xSt) (h : ∀ κ : xK, Cx κ M_X7_listOf (d + 1) → xR κ Q → (((a2 : Int32).toInt < 0 ∨ 4 < (a2 : Int32).toInt → Q (some (.int ((-2)))) st) ∧ ((a2 : Int32).toInt = 0 → vp_in a1 8 ∧ Q (some (.int (st.1 38 (a1 : Int32).toNatClampNeg))) st) ∧ ((a2 : Int32).toInt = 1 → vp_in a1 8 ∧ Q (some (.int (st.1 39 (a1 : Int32).toNatClampNeg))) st) ∧ ((a2 : Int32).toInt = 2 → X κ 53 [(0, .ref 7), (1, .int a1), (3, .int 0), (4, .int 0)] [] st) ∧ ((a2 : Int32).toInt = 3 → Ct d M_X7_tens [.ref 7, .int a1, .int 1] st (Qi fun v4 s3 => Q (some (.int v4)) s3)) ∧ ((a2 : Int32).toInt = 4 → Ct d M_X7_tens [.ref 7, .int a1, .int 1] st (Qi fun v6 s5 => ((v6 ≤ 0 → Q (some (.int 0)) s5) ∧ (¬ v6 ≤ 0 → Ct d M_X7_tens [.ref 7, .int a1, .int 1] s5 (Qi fun v8 s7 => Ct d M_X7_tens [.ref 7, .int a1, .int 0] s7 (Qi fun v10 s9 => (((2 * v8) < v10 → Q (some (.int 0)) s9) ∧ (¬ (2 * v8) < v10 → Q (some (.int 1)) s9)))))))))) : Ct (d + 1) M_X7_listOf [.ref 7, .int a1, .int a2] st Q := by
  refine Ct_of (by decide +kernel) (Nat.le_of_ble_eq_true rfl) (fun κ C Z => ?_)
  replace h := h κ C Z
  show X κ 0 [(0, .ref 7), (1, .int a1), (2, .int a2)] [] st
  refine X_iconst C (v := 0) (by decide) dX7_listOf_0 ?_
  refine X_istore_n C dX7_listOf_1 rfl (by decide) (L' := [(3, .int 0), (0, .ref 7), (1, .int a1), (2, .int a2)]) rfl ?_
  refine X_iload_n C dX7_listOf_2 rfl (j := 3) rfl ?_
  have hc : ((a2 : Int32).toInt < 0 ∨ 4 < (a2 : Int32).toInt) ∨ (a2 : Int32).toInt = 0 ∨ (a2 : Int32).toInt = 1 ∨ (a2 : Int32).toInt = 2 ∨ (a2 : Int32).toInt = 3 ∨ (a2 : Int32).toInt = 4 := by omega
  rcases hc with c | c | c | c | c | c
  · replace h := h.1 c
    refine X_tableOut C dX7_listOf_3 c (tgt := 135) (by decide) ?_
    refine X_bipush C (v := (-2)) (by decide) dX7_listOf_135 ?_
    exact X_iret C Z rfl dX7_listOf_137 h
  · replace h := h.2.1 c
    refine X_tableIn C dX7_listOf_3 (by omega) (by omega) (off := 33) (by rw [c]; rfl) (tgt := 36) (by decide) ?_
    refine X_aload_n C dX7_listOf_36 rfl (j := 1) rfl ?_
    refine X_getR C sh_7 rfl fw_RX7_45 dX7_listOf_37 ?_
    refine X_iload_n C dX7_listOf_40 rfl (j := 2) rfl ?_
    obtain ⟨g1, h⟩ := h
    refine X_iald C sh_38 g1 dX7_listOf_41 ?_
    exact X_iret C Z rfl dX7_listOf_42 h
  · replace h := h.2.2.1 c
    refine X_tableIn C dX7_listOf_3 (by omega) (by omega) (off := 40) (by rw [c]; rfl) (tgt := 43) (by decide) ?_
    refine X_aload_n C dX7_listOf_43 rfl (j := 1) rfl ?_
    refine X_getR C sh_7 rfl fw_RX7_48 dX7_listOf_44 ?_
    refine X_iload_n C dX7_listOf_47 rfl (j := 2) rfl ?_
    obtain ⟨g2, h⟩ := h
    refine X_iald C sh_39 g2 dX7_listOf_48 ?_
    exact X_iret C Z rfl dX7_listOf_49 h
  · replace h := h.2.2.2.1 c
    refine X_tableIn C dX7_listOf_3 (by omega) (by omega) (off := 47) (by rw [c]; rfl) (tgt := 50) (by decide) ?_
    refine X_iconst C (v := 0) (by decide) dX7_listOf_50 ?_
    refine X_istore C dX7_listOf_51 (by decide) (L' := [(4, .int 0), (3, .int 0), (0, .ref 7), (1, .int a1), (2, .int a2)]) rfl ?_
    refine X_loc [2, 3, 1, 0] rfl ?_
    exact h
  · replace h := h.2.2.2.2.1 c
    refine X_tableIn C dX7_listOf_3 (by omega) (by omega) (off := 93) (by rw [c]; rfl) (tgt := 96) (by decide) ?_
    refine X_aload_n C dX7_listOf_96 rfl (j := 1) rfl ?_
    refine X_iload_n C dX7_listOf_97 rfl (j := 2) rfl ?_
    refine X_iconst C (v := 1) (by decide) dX7_listOf_98 ?_
    refine X_callV C dX7_listOf_99 pw_RX7_186 (b := 7) (as := [.int a1, .int 1]) (S := []) sh_7 rfl rfl rfl (Nat.le_of_ble_eq_true rfl) (Ct_mono h ?_)
    rintro _ s3 ⟨v4, rfl, h⟩
    show X κ 102 [(3, .int 0), (0, .ref 7), (1, .int a1), (2, .int a2)] [.int v4] s3
    exact X_iret C Z rfl dX7_listOf_102 h
  · replace h := h.2.2.2.2.2 c
    refine X_tableIn C dX7_listOf_3 (by omega) (by omega) (off := 100) (by rw [c]; rfl) (tgt := 103) (by decide) ?_
    refine X_aload_n C dX7_listOf_103 rfl (j := 1) rfl ?_
    refine X_iload_n C dX7_listOf_104 rfl (j := 2) rfl ?_
    refine X_iconst C (v := 1) (by decide) dX7_listOf_105 ?_
    refine X_callV C dX7_listOf_106 pw_RX7_186 (b := 7) (as := [.int a1, .int 1]) (S := []) sh_7 rfl rfl rfl (Nat.le_of_ble_eq_true rfl) (Ct_mono h ?_)
    rintro _ s5 ⟨v6, rfl, h⟩
    show X κ 109 [(3, .int 0), (0, .ref 7), (1, .int a1), (2, .int a2)] [.int v6] s5
    refine X_if_le C dX7_listOf_109 (tgt := 133) (by decide) (fun c => ?_) (fun c => ?_)
    · replace h := h.1 c
      refine X_iconst C (v := 0) (by decide) dX7_listOf_133 ?_
      exact X_iret C Z rfl dX7_listOf_134 h
    · replace h := h.2 c
      refine X_iconst C (v := 2) (by decide) dX7_listOf_112 ?_
      refine X_aload_n C dX7_listOf_113 rfl (j := 1) rfl ?_
      refine X_iload_n C dX7_listOf_114 rfl (j := 2) rfl ?_
      refine X_iconst C (v := 1) (by decide) dX7_listOf_115 ?_
      refine X_callV C dX7_listOf_116 pw_RX7_186 (b := 7) (as := [.int a1, .int 1]) (S := [.int 2]) sh_7 rfl rfl rfl (Nat.le_of_ble_eq_true rfl) (Ct_mono h ?_)
      rintro _ s7 ⟨v8, rfl, h⟩
      show X κ 119 [(3, .int 0), (0, .ref 7), (1, .int a1), (2, .int a2)] [.int v8, .int 2] s7
      refine X_imul C dX7_listOf_119 ?_
      refine X_aload_n C dX7_listOf_120 rfl (j := 1) rfl ?_
      refine X_iload_n C dX7_listOf_121 rfl (j := 2) rfl ?_
      refine X_iconst C (v := 0) (by decide) dX7_listOf_122 ?_
      refine X_callV C dX7_listOf_123 pw_RX7_186 (b := 7) (as := [.int a1, .int 0]) (S := [.int (2 * v8)]) sh_7 rfl rfl rfl (Nat.le_of_ble_eq_true rfl) (Ct_mono h ?_)
      rintro _ s9 ⟨v10, rfl, h⟩
      show X κ 126 [(3, .int 0), (0, .ref 7), (1, .int a1), (2, .int a2)] [.int v10, .int (2 * v8)] s9
      refine X_icmp_lt C dX7_listOf_126 (tgt := 133) (by decide) (fun c => ?_) (fun c => ?_)
      · replace h := h.1 c
        refine X_iconst C (v := 0) (by decide) dX7_listOf_133 ?_
        exact X_iret C Z rfl dX7_listOf_134 h
      · replace h := h.2 c
        refine X_iconst C (v := 1) (by decide) dX7_listOf_129 ?_
        refine X_goto C dX7_listOf_130 (tgt := 134) (by decide) ?_
        exact X_iret C Z rfl dX7_listOf_134 h
set_option maxHeartbeats 4000000 in
set_option maxRecDepth 100000 in
theorem eX7_listIs {d : Nat} {Q : Option Value → xSt → Prop} (a1 : Int32) (a2 : Int32) (st : xSt) (h : Ct d M_X7_isList [.ref 7, .int a1] st (Qi fun v2 s1 => ((v2 = 0 → Q (some (.int ((-2)))) s1) ∧ (¬ v2 = 0 → Ct d M_X7_listOf [.ref 7, .int a1, .int a2] s1 (Qi fun v4 s3 => Q (some (.int v4)) s3))))) : Ct (d + 1) M_X7_listIs [.ref 7, .int a1, .int a2] st Q := by
  refine Ct_of (by decide +kernel) (Nat.le_of_ble_eq_true rfl) (fun κ C Z => ?_)
  show X κ 0 [(0, .ref 7), (1, .int a1), (2, .int a2)] [] st
  refine X_aload_n C dX7_listIs_0 rfl (j := 0) rfl ?_
  refine X_iload_n C dX7_listIs_1 rfl (j := 1) rfl ?_
  refine X_callV C dX7_listIs_2 pw_RX7_183 (b := 7) (as := [.int a1]) (S := []) sh_7 rfl rfl rfl (Nat.le_of_ble_eq_true rfl) (Ct_mono h ?_)
  rintro _ s1 ⟨v2, rfl, h⟩
  show X κ 5 [(0, .ref 7), (1, .int a1), (2, .int a2)] [.int v2] s1
  refine X_if_eq C dX7_listIs_5 (tgt := 17) (by decide) (fun c => ?_) (fun c => ?_)
  · replace h := h.1 c
    refine X_bipush C (v := (-2)) (by decide) dX7_listIs_17 ?_
    exact X_iret C Z rfl dX7_listIs_19 h
  · replace h := h.2 c
    refine X_aload_n C dX7_listIs_8 rfl (j := 0) rfl ?_
    refine X_iload_n C dX7_listIs_9 rfl (j := 1) rfl ?_
    refine X_iload_n C dX7_listIs_10 rfl (j := 2) rfl ?_
    refine X_callV C dX7_listIs_11 pw_RX7_189 (b := 7) (as := [.int a1, .int a2]) (S := []) sh_7 rfl rfl rfl (Nat.le_of_ble_eq_true rfl) (Ct_mono h ?_)
    rintro _ s3 ⟨v4, rfl, h⟩
    show X κ 14 [(0, .ref 7), (1, .int a1), (2, .int a2)] [.int v4] s3
    refine X_goto C dX7_listIs_14 (tgt := 19) (by decide) ?_
    exact X_iret C Z rfl dX7_listIs_19 h
set_option maxHeartbeats 4000000 in
set_option maxRecDepth 100000 in
theorem bX7_changesOf_2 {κ : xK} {d : Nat} {Q : Option Value → xSt → Prop} (C : Cx κ M_X7_changesOf (d)) (Z : xR κ Q) (x1 : Int32) (x2 : Int32) (x3 : Int32) (st : xSt) (h : vp_in x1 8 ∧ (((st.1 38 (x1 : Int32).toNatClampNeg) < x3 → vp_in x1 8 ∧ vp_in x2 8 ∧ vp_in ((31 * (st.1 38 (x1 : Int32).toNatClampNeg)) + (st.1 38 (x2 : Int32).toNatClampNeg)) 961 ∧ Q (some (.int (st.1 41 ((31 * (st.1 38 (x1 : Int32).toNatClampNeg)) + (st.1 38 (x2 : Int32).toNatClampNeg) : Int32).toNatClampNeg))) st) ∧ (¬ (st.1 38 (x1 : Int32).toNatClampNeg) < x3 → X κ 15 [(0, .ref 7), (1, .int x1), (2, .int x2), (3, .int x3), (4, .int 0)] [] st))) : X κ 2 [(0, .ref 7), (1, .int x1), (2, .int x2), (3, .int x3)] [] st := by
  refine X_iload_n C dX7_changesOf_2 rfl (j := 3) rfl ?_
  refine X_aload_n C dX7_changesOf_3 rfl (j := 0) rfl ?_
  refine X_getR C sh_7 rfl fw_RX7_45 dX7_changesOf_4 ?_
  refine X_iload_n C dX7_changesOf_7 rfl (j := 1) rfl ?_
  obtain ⟨g1, h⟩ := h
  refine X_iald C sh_38 g1 dX7_changesOf_8 ?_
  refine X_icmp_gt C dX7_changesOf_9 (tgt := 215) (by decide) (fun c => ?_) (fun c => ?_)
  · replace h := h.1 c
    refine X_aload_n C dX7_changesOf_215 rfl (j := 0) rfl ?_
    refine X_getR C sh_7 rfl fw_RX7_54 dX7_changesOf_216 ?_
    refine X_bipush C (v := 31) (by decide) dX7_changesOf_219 ?_
    refine X_aload_n C dX7_changesOf_221 rfl (j := 0) rfl ?_
    refine X_getR C sh_7 rfl fw_RX7_45 dX7_changesOf_222 ?_
    refine X_iload_n C dX7_changesOf_225 rfl (j := 1) rfl ?_
    obtain ⟨g2, h⟩ := h
    refine X_iald C sh_38 g2 dX7_changesOf_226 ?_
    refine X_imul C dX7_changesOf_227 ?_
    refine X_aload_n C dX7_changesOf_228 rfl (j := 0) rfl ?_
    refine X_getR C sh_7 rfl fw_RX7_45 dX7_changesOf_229 ?_
    refine X_iload_n C dX7_changesOf_232 rfl (j := 2) rfl ?_
    obtain ⟨g3, h⟩ := h
    refine X_iald C sh_38 g3 dX7_changesOf_233 ?_
    refine X_iadd C dX7_changesOf_234 ?_
    obtain ⟨g4, h⟩ := h
    refine X_iald C sh_41 g4 dX7_changesOf_235 ?_
    exact X_iret C Z rfl dX7_changesOf_236 h
  · replace h := h.2 c
    refine X_iconst C (v := 0) (by decide) dX7_changesOf_12 ?_
    refine X_istore C dX7_changesOf_13 (by decide) (L' := [(4, .int 0), (0, .ref 7), (1, .int x1), (2, .int x2), (3, .int x3)]) rfl ?_
    refine X_loc [1, 2, 3, 4, 0] rfl ?_
    exact h
set_option maxHeartbeats 4000000 in
set_option maxRecDepth 100000 in
theorem bX7_changesOf_15 {κ : xK} {d : Nat} {Q : Option Value → xSt → Prop} (C : Cx κ M_X7_changesOf (d)) (Z : xR κ Q) (x1 : Int32) (x2 : Int32) (x3 : Int32) (x4 : Int32) (st : xSt) (h : vp_in x2 8 ∧ (((st.1 38 (x2 : Int32).toNatClampNeg) < x4 → X κ 2 [(0, .ref 7), (1, .int x1), (2, .int x2), (3, .int (x3 + 1))] [] st) ∧ (¬ (st.1 38 (x2 : Int32).toNatClampNeg) < x4 → ((x3 ≤ 0 → vp_in ((31 * x3) + x4) 961 ∧ X κ 15 [(0, .ref 7), (1, .int x1), (2, .int x2), (3, .int x3), (4, .int (x4 + 1))] [] (xup st 41 ((31 * x3) + x4 : Int32).toNatClampNeg (2 * (x3 + x4)))) ∧ (¬ x3 ≤ 0 → ((x4 ≤ 0 → vp_in ((31 * x3) + x4) 961 ∧ X κ 15 [(0, .ref 7), (1, .int x1), (2, .int x2), (3, .int x3), (4, .int (x4 + 1))] [] (xup st 41 ((31 * x3) + x4 : Int32).toNatClampNeg (2 * (x3 + x4)))) ∧ (¬ x4 ≤ 0 → vp_in (((30 * x1) + x3) - 1) 240 ∧ vp_in (((30 * x2) + x4) - 1) 240 ∧ vp_in (((31 * (x3 - 1)) + x4) - 1) 961 ∧ (((st.1 40 (((30 * x1) + x3) - 1 : Int32).toNatClampNeg) = (st.1 40 (((30 * x2) + x4) - 1 : Int32).toNatClampNeg) → vp_in ((31 * (x3 - 1)) + x4) 961 ∧ ((((st.1 41 (((31 * (x3 - 1)) + x4) - 1 : Int32).toNatClampNeg) + 0) ≤ ((st.1 41 ((31 * (x3 - 1)) + x4 : Int32).toNatClampNeg) + 2) → vp_in (((31 * x3) + x4) - 1) 961 ∧ ((((st.1 41 (((31 * (x3 - 1)) + x4) - 1 : Int32).toNatClampNeg) + 0) ≤ ((st.1 41 (((31 * x3) + x4) - 1 : Int32).toNatClampNeg) + 2) → vp_in ((31 * x3) + x4) 961 ∧ X κ 15 [(0, .ref 7), (1, .int x1), (2, .int x2), (3, .int x3), (4, .int (x4 + 1))] [] (xup st 41 ((31 * x3) + x4 : Int32).toNatClampNeg ((st.1 41 (((31 * (x3 - 1)) + x4) - 1 : Int32).toNatClampNeg) + 0))) ∧ (¬ ((st.1 41 (((31 * (x3 - 1)) + x4) - 1 : Int32).toNatClampNeg) + 0) ≤ ((st.1 41 (((31 * x3) + x4) - 1 : Int32).toNatClampNeg) + 2) → vp_in ((31 * x3) + x4) 961 ∧ X κ 15 [(0, .ref 7), (1, .int x1), (2, .int x2), (3, .int x3), (4, .int (x4 + 1))] [] (xup st 41 ((31 * x3) + x4 : Int32).toNatClampNeg ((st.1 41 (((31 * x3) + x4) - 1 : Int32).toNatClampNeg) + 2))))) ∧ (¬ ((st.1 41 (((31 * (x3 - 1)) + x4) - 1 : Int32).toNatClampNeg) + 0) ≤ ((st.1 41 ((31 * (x3 - 1)) + x4 : Int32).toNatClampNeg) + 2) → vp_in (((31 * x3) + x4) - 1) 961 ∧ ((((st.1 41 ((31 * (x3 - 1)) + x4 : Int32).toNatClampNeg) + 2) ≤ ((st.1 41 (((31 * x3) + x4) - 1 : Int32).toNatClampNeg) + 2) → vp_in ((31 * x3) + x4) 961 ∧ X κ 15 [(0, .ref 7), (1, .int x1), (2, .int x2), (3, .int x3), (4, .int (x4 + 1))] [] (xup st 41 ((31 * x3) + x4 : Int32).toNatClampNeg ((st.1 41 ((31 * (x3 - 1)) + x4 : Int32).toNatClampNeg) + 2))) ∧ (¬ ((st.1 41 ((31 * (x3 - 1)) + x4 : Int32).toNatClampNeg) + 2) ≤ ((st.1 41 (((31 * x3) + x4) - 1 : Int32).toNatClampNeg) + 2) → vp_in ((31 * x3) + x4) 961 ∧ X κ 15 [(0, .ref 7), (1, .int x1), (2, .int x2), (3, .int x3), (4, .int (x4 + 1))] [] (xup st 41 ((31 * x3) + x4 : Int32).toNatClampNeg ((st.1 41 (((31 * x3) + x4) - 1 : Int32).toNatClampNeg) + 2))))))) ∧ (¬ (st.1 40 (((30 * x1) + x3) - 1 : Int32).toNatClampNeg) = (st.1 40 (((30 * x2) + x4) - 1 : Int32).toNatClampNeg) → (((st.1 40 (((30 * x1) + x3) - 1 : Int32).toNatClampNeg) = ((-1)) → vp_in ((31 * (x3 - 1)) + x4) 961 ∧ ((((st.1 41 (((31 * (x3 - 1)) + x4) - 1 : Int32).toNatClampNeg) + 0) ≤ ((st.1 41 ((31 * (x3 - 1)) + x4 : Int32).toNatClampNeg) + 2) → vp_in (((31 * x3) + x4) - 1) 961 ∧ ((((st.1 41 (((31 * (x3 - 1)) + x4) - 1 : Int32).toNatClampNeg) + 0) ≤ ((st.1 41 (((31 * x3) + x4) - 1 : Int32).toNatClampNeg) + 2) → vp_in ((31 * x3) + x4) 961 ∧ X κ 15 [(0, .ref 7), (1, .int x1), (2, .int x2), (3, .int x3), (4, .int (x4 + 1))] [] (xup st 41 ((31 * x3) + x4 : Int32).toNatClampNeg ((st.1 41 (((31 * (x3 - 1)) + x4) - 1 : Int32).toNatClampNeg) + 0))) ∧ (¬ ((st.1 41 (((31 * (x3 - 1)) + x4) - 1 : Int32).toNatClampNeg) + 0) ≤ ((st.1 41 (((31 * x3) + x4) - 1 : Int32).toNatClampNeg) + 2) → vp_in ((31 * x3) + x4) 961 ∧ X κ 15 [(0, .ref 7), (1, .int x1), (2, .int x2), (3, .int x3), (4, .int (x4 + 1))] [] (xup st 41 ((31 * x3) + x4 : Int32).toNatClampNeg ((st.1 41 (((31 * x3) + x4) - 1 : Int32).toNatClampNeg) + 2))))) ∧ (¬ ((st.1 41 (((31 * (x3 - 1)) + x4) - 1 : Int32).toNatClampNeg) + 0) ≤ ((st.1 41 ((31 * (x3 - 1)) + x4 : Int32).toNatClampNeg) + 2) → vp_in (((31 * x3) + x4) - 1) 961 ∧ ((((st.1 41 ((31 * (x3 - 1)) + x4 : Int32).toNatClampNeg) + 2) ≤ ((st.1 41 (((31 * x3) + x4) - 1 : Int32).toNatClampNeg) + 2) → vp_in ((31 * x3) + x4) 961 ∧ X κ 15 [(0, .ref 7), (1, .int x1), (2, .int x2), (3, .int x3), (4, .int (x4 + 1))] [] (xup st 41 ((31 * x3) + x4 : Int32).toNatClampNeg ((st.1 41 ((31 * (x3 - 1)) + x4 : Int32).toNatClampNeg) + 2))) ∧ (¬ ((st.1 41 ((31 * (x3 - 1)) + x4 : Int32).toNatClampNeg) + 2) ≤ ((st.1 41 (((31 * x3) + x4) - 1 : Int32).toNatClampNeg) + 2) → vp_in ((31 * x3) + x4) 961 ∧ X κ 15 [(0, .ref 7), (1, .int x1), (2, .int x2), (3, .int x3), (4, .int (x4 + 1))] [] (xup st 41 ((31 * x3) + x4 : Int32).toNatClampNeg ((st.1 41 (((31 * x3) + x4) - 1 : Int32).toNatClampNeg) + 2))))))) ∧ (¬ (st.1 40 (((30 * x1) + x3) - 1 : Int32).toNatClampNeg) = ((-1)) → ((¬ (st.1 40 (((30 * x2) + x4) - 1 : Int32).toNatClampNeg) = ((-1)) → vp_in ((31 * (x3 - 1)) + x4) 961 ∧ ((((st.1 41 (((31 * (x3 - 1)) + x4) - 1 : Int32).toNatClampNeg) + 3) ≤ ((st.1 41 ((31 * (x3 - 1)) + x4 : Int32).toNatClampNeg) + 2) → vp_in (((31 * x3) + x4) - 1) 961 ∧ ((((st.1 41 (((31 * (x3 - 1)) + x4) - 1 : Int32).toNatClampNeg) + 3) ≤ ((st.1 41 (((31 * x3) + x4) - 1 : Int32).toNatClampNeg) + 2) → vp_in ((31 * x3) + x4) 961 ∧ X κ 15 [(0, .ref 7), (1, .int x1), (2, .int x2), (3, .int x3), (4, .int (x4 + 1))] [] (xup st 41 ((31 * x3) + x4 : Int32).toNatClampNeg ((st.1 41 (((31 * (x3 - 1)) + x4) - 1 : Int32).toNatClampNeg) + 3))) ∧ (¬ ((st.1 41 (((31 * (x3 - 1)) + x4) - 1 : Int32).toNatClampNeg) + 3) ≤ ((st.1 41 (((31 * x3) + x4) - 1 : Int32).toNatClampNeg) + 2) → vp_in ((31 * x3) + x4) 961 ∧ X κ 15 [(0, .ref 7), (1, .int x1), (2, .int x2), (3, .int x3), (4, .int (x4 + 1))] [] (xup st 41 ((31 * x3) + x4 : Int32).toNatClampNeg ((st.1 41 (((31 * x3) + x4) - 1 : Int32).toNatClampNeg) + 2))))) ∧ (¬ ((st.1 41 (((31 * (x3 - 1)) + x4) - 1 : Int32).toNatClampNeg) + 3) ≤ ((st.1 41 ((31 * (x3 - 1)) + x4 : Int32).toNatClampNeg) + 2) → vp_in (((31 * x3) + x4) - 1) 961 ∧ ((((st.1 41 ((31 * (x3 - 1)) + x4 : Int32).toNatClampNeg) + 2) ≤ ((st.1 41 (((31 * x3) + x4) - 1 : Int32).toNatClampNeg) + 2) → vp_in ((31 * x3) + x4) 961 ∧ X κ 15 [(0, .ref 7), (1, .int x1), (2, .int x2), (3, .int x3), (4, .int (x4 + 1))] [] (xup st 41 ((31 * x3) + x4 : Int32).toNatClampNeg ((st.1 41 ((31 * (x3 - 1)) + x4 : Int32).toNatClampNeg) + 2))) ∧ (¬ ((st.1 41 ((31 * (x3 - 1)) + x4 : Int32).toNatClampNeg) + 2) ≤ ((st.1 41 (((31 * x3) + x4) - 1 : Int32).toNatClampNeg) + 2) → vp_in ((31 * x3) + x4) 961 ∧ X κ 15 [(0, .ref 7), (1, .int x1), (2, .int x2), (3, .int x3), (4, .int (x4 + 1))] [] (xup st 41 ((31 * x3) + x4 : Int32).toNatClampNeg ((st.1 41 (((31 * x3) + x4) - 1 : Int32).toNatClampNeg) + 2))))))) ∧ ((st.1 40 (((30 * x2) + x4) - 1 : Int32).toNatClampNeg) = ((-1)) → vp_in ((31 * (x3 - 1)) + x4) 961 ∧ ((((st.1 41 (((31 * (x3 - 1)) + x4) - 1 : Int32).toNatClampNeg) + 0) ≤ ((st.1 41 ((31 * (x3 - 1)) + x4 : Int32).toNatClampNeg) + 2) → vp_in (((31 * x3) + x4) - 1) 961 ∧ ((((st.1 41 (((31 * (x3 - 1)) + x4) - 1 : Int32).toNatClampNeg) + 0) ≤ ((st.1 41 (((31 * x3) + x4) - 1 : Int32).toNatClampNeg) + 2) → vp_in ((31 * x3) + x4) 961 ∧ X κ 15 [(0, .ref 7), (1, .int x1), (2, .int x2), (3, .int x3), (4, .int (x4 + 1))] [] (xup st 41 ((31 * x3) + x4 : Int32).toNatClampNeg ((st.1 41 (((31 * (x3 - 1)) + x4) - 1 : Int32).toNatClampNeg) + 0))) ∧ (¬ ((st.1 41 (((31 * (x3 - 1)) + x4) - 1 : Int32).toNatClampNeg) + 0) ≤ ((st.1 41 (((31 * x3) + x4) - 1 : Int32).toNatClampNeg) + 2) → vp_in ((31 * x3) + x4) 961 ∧ X κ 15 [(0, .ref 7), (1, .int x1), (2, .int x2), (3, .int x3), (4, .int (x4 + 1))] [] (xup st 41 ((31 * x3) + x4 : Int32).toNatClampNeg ((st.1 41 (((31 * x3) + x4) - 1 : Int32).toNatClampNeg) + 2))))) ∧ (¬ ((st.1 41 (((31 * (x3 - 1)) + x4) - 1 : Int32).toNatClampNeg) + 0) ≤ ((st.1 41 ((31 * (x3 - 1)) + x4 : Int32).toNatClampNeg) + 2) → vp_in (((31 * x3) + x4) - 1) 961 ∧ ((((st.1 41 ((31 * (x3 - 1)) + x4 : Int32).toNatClampNeg) + 2) ≤ ((st.1 41 (((31 * x3) + x4) - 1 : Int32).toNatClampNeg) + 2) → vp_in ((31 * x3) + x4) 961 ∧ X κ 15 [(0, .ref 7), (1, .int x1), (2, .int x2), (3, .int x3), (4, .int (x4 + 1))] [] (xup st 41 ((31 * x3) + x4 : Int32).toNatClampNeg ((st.1 41 ((31 * (x3 - 1)) + x4 : Int32).toNatClampNeg) + 2))) ∧ (¬ ((st.1 41 ((31 * (x3 - 1)) + x4 : Int32).toNatClampNeg) + 2) ≤ ((st.1 41 (((31 * x3) + x4) - 1 : Int32).toNatClampNeg) + 2) → vp_in ((31 * x3) + x4) 961 ∧ X κ 15 [(0, .ref 7), (1, .int x1), (2, .int x2), (3, .int x3), (4, .int (x4 + 1))] [] (xup st 41 ((31 * x3) + x4 : Int32).toNatClampNeg ((st.1 41 (((31 * x3) + x4) - 1 : Int32).toNatClampNeg) + 2))))))))))))))))))) : X κ 15 [(0, .ref 7), (1, .int x1), (2, .int x2), (3, .int x3), (4, .int x4)] [] st := by
  refine X_iload C dX7_changesOf_15 (j := 4) rfl ?_
  refine X_aload_n C dX7_changesOf_17 rfl (j := 0) rfl ?_
  refine X_getR C sh_7 rfl fw_RX7_45 dX7_changesOf_18 ?_
  refine X_iload_n C dX7_changesOf_21 rfl (j := 2) rfl ?_
  obtain ⟨g1, h⟩ := h
  refine X_iald C sh_38 g1 dX7_changesOf_22 ?_
  refine X_icmp_gt C dX7_changesOf_23 (tgt := 209) (by decide) (fun c => ?_) (fun c => ?_)
  · replace h := h.1 c
    refine X_iinc C dX7_changesOf_209 (j := 3) rfl (v := x3 + 1) rfl (by decide) (L' := [(3, .int (x3 + 1)), (0, .ref 7), (1, .int x1), (2, .int x2), (4, .int x4)]) rfl ?_
    refine X_goto C dX7_changesOf_212 (tgt := 2) (by decide) ?_
    refine X_loc [1, 2, 3, 0] rfl ?_
    exact h
  · replace h := h.2 c
    refine X_iconst C (v := 2) (by decide) dX7_changesOf_26 ?_
    refine X_iload_n C dX7_changesOf_27 rfl (j := 3) rfl ?_
    refine X_iload C dX7_changesOf_28 (j := 4) rfl ?_
    refine X_iadd C dX7_changesOf_30 ?_
    refine X_imul C dX7_changesOf_31 ?_
    refine X_istore C dX7_changesOf_32 (by decide) (L' := [(5, .int (2 * (x3 + x4))), (0, .ref 7), (1, .int x1), (2, .int x2), (3, .int x3), (4, .int x4)]) rfl ?_
    refine X_iload_n C dX7_changesOf_34 rfl (j := 4) rfl ?_
    refine X_if_le C dX7_changesOf_35 (tgt := 189) (by decide) (fun c => ?_) (fun c => ?_)
    · replace h := h.1 c
      refine X_aload_n C dX7_changesOf_189 rfl (j := 1) rfl ?_
      refine X_getR C sh_7 rfl fw_RX7_54 dX7_changesOf_190 ?_
      refine X_bipush C (v := 31) (by decide) dX7_changesOf_193 ?_
      refine X_iload_n C dX7_changesOf_195 rfl (j := 4) rfl ?_
      refine X_imul C dX7_changesOf_196 ?_
      refine X_iload C dX7_changesOf_197 (j := 5) rfl ?_
      refine X_iadd C dX7_changesOf_199 ?_
      refine X_iload C dX7_changesOf_200 (j := 0) rfl ?_
      obtain ⟨g2, h⟩ := h
      refine X_iast C sh_41 g2 dX7_changesOf_202 ?_
      refine X_iinc C dX7_changesOf_203 (j := 5) rfl (v := x4 + 1) rfl (by decide) (L' := [(4, .int (x4 + 1)), (5, .int (2 * (x3 + x4))), (0, .ref 7), (1, .int x1), (2, .int x2), (3, .int x3)]) rfl ?_
      refine X_goto C dX7_changesOf_206 (tgt := 15) (by decide) ?_
      refine X_loc [2, 3, 4, 5, 0] rfl ?_
      exact h
    · replace h := h.2 c
      refine X_iload C dX7_changesOf_38 (j := 5) rfl ?_
      refine X_if_le C dX7_changesOf_40 (tgt := 189) (by decide) (fun c => ?_) (fun c => ?_)
      · replace h := h.1 c
        refine X_aload_n C dX7_changesOf_189 rfl (j := 1) rfl ?_
        refine X_getR C sh_7 rfl fw_RX7_54 dX7_changesOf_190 ?_
        refine X_bipush C (v := 31) (by decide) dX7_changesOf_193 ?_
        refine X_iload_n C dX7_changesOf_195 rfl (j := 4) rfl ?_
        refine X_imul C dX7_changesOf_196 ?_
        refine X_iload C dX7_changesOf_197 (j := 5) rfl ?_
        refine X_iadd C dX7_changesOf_199 ?_
        refine X_iload C dX7_changesOf_200 (j := 0) rfl ?_
        obtain ⟨g3, h⟩ := h
        refine X_iast C sh_41 g3 dX7_changesOf_202 ?_
        refine X_iinc C dX7_changesOf_203 (j := 5) rfl (v := x4 + 1) rfl (by decide) (L' := [(4, .int (x4 + 1)), (5, .int (2 * (x3 + x4))), (0, .ref 7), (1, .int x1), (2, .int x2), (3, .int x3)]) rfl ?_
        refine X_goto C dX7_changesOf_206 (tgt := 15) (by decide) ?_
        refine X_loc [2, 3, 4, 5, 0] rfl ?_
        exact h
      · replace h := h.2 c
        refine X_aload_n C dX7_changesOf_43 rfl (j := 1) rfl ?_
        refine X_getR C sh_7 rfl fw_RX7_51 dX7_changesOf_44 ?_
        refine X_bipush C (v := 30) (by decide) dX7_changesOf_47 ?_
        refine X_iload_n C dX7_changesOf_49 rfl (j := 2) rfl ?_
        refine X_imul C dX7_changesOf_50 ?_
        refine X_iload_n C dX7_changesOf_51 rfl (j := 4) rfl ?_
        refine X_iadd C dX7_changesOf_52 ?_
        refine X_iconst C (v := 1) (by decide) dX7_changesOf_53 ?_
        refine X_isub C dX7_changesOf_54 ?_
        obtain ⟨g4, h⟩ := h
        refine X_iald C sh_40 g4 dX7_changesOf_55 ?_
        refine X_istore C dX7_changesOf_56 (by decide) (L' := [(6, .int (st.1 40 (((30 * x1) + x3) - 1 : Int32).toNatClampNeg)), (5, .int (2 * (x3 + x4))), (0, .ref 7), (1, .int x1), (2, .int x2), (3, .int x3), (4, .int x4)]) rfl ?_
        refine X_aload_n C dX7_changesOf_58 rfl (j := 2) rfl ?_
        refine X_getR C sh_7 rfl fw_RX7_51 dX7_changesOf_59 ?_
        refine X_bipush C (v := 30) (by decide) dX7_changesOf_62 ?_
        refine X_iload_n C dX7_changesOf_64 rfl (j := 4) rfl ?_
        refine X_imul C dX7_changesOf_65 ?_
        refine X_iload C dX7_changesOf_66 (j := 6) rfl ?_
        refine X_iadd C dX7_changesOf_68 ?_
        refine X_iconst C (v := 1) (by decide) dX7_changesOf_69 ?_
        refine X_isub C dX7_changesOf_70 ?_
        obtain ⟨g5, h⟩ := h
        refine X_iald C sh_40 g5 dX7_changesOf_71 ?_
        refine X_istore C dX7_changesOf_72 (by decide) (L' := [(7, .int (st.1 40 (((30 * x2) + x4) - 1 : Int32).toNatClampNeg)), (6, .int (st.1 40 (((30 * x1) + x3) - 1 : Int32).toNatClampNeg)), (5, .int (2 * (x3 + x4))), (0, .ref 7), (1, .int x1), (2, .int x2), (3, .int x3), (4, .int x4)]) rfl ?_
        refine X_aload_n C dX7_changesOf_74 rfl (j := 3) rfl ?_
        refine X_getR C sh_7 rfl fw_RX7_54 dX7_changesOf_75 ?_
        refine X_bipush C (v := 31) (by decide) dX7_changesOf_78 ?_
        refine X_iload_n C dX7_changesOf_80 rfl (j := 6) rfl ?_
        refine X_iconst C (v := 1) (by decide) dX7_changesOf_81 ?_
        refine X_isub C dX7_changesOf_82 ?_
        refine X_imul C dX7_changesOf_83 ?_
        refine X_iload C dX7_changesOf_84 (j := 7) rfl ?_
        refine X_iadd C dX7_changesOf_86 ?_
        refine X_iconst C (v := 1) (by decide) dX7_changesOf_87 ?_
        refine X_isub C dX7_changesOf_88 ?_
        obtain ⟨g6, h⟩ := h
        refine X_iald C sh_41 g6 dX7_changesOf_89 ?_
        refine X_iload C dX7_changesOf_90 (j := 1) rfl ?_
        refine X_iload C dX7_changesOf_92 (j := 0) rfl ?_
        refine X_icmp_eq C dX7_changesOf_94 (tgt := 109) (by decide) (fun c => ?_) (fun c => ?_)
        · replace h := h.1 c
          refine X_iconst C (v := 0) (by decide) dX7_changesOf_109 ?_
          refine X_goto C dX7_changesOf_110 (tgt := 114) (by decide) ?_
          refine X_iadd C dX7_changesOf_114 ?_
          refine X_istore C dX7_changesOf_115 (by decide) (L' := [(8, .int ((st.1 41 (((31 * (x3 - 1)) + x4) - 1 : Int32).toNatClampNeg) + 0)), (7, .int (st.1 40 (((30 * x2) + x4) - 1 : Int32).toNatClampNeg)), (6, .int (st.1 40 (((30 * x1) + x3) - 1 : Int32).toNatClampNeg)), (5, .int (2 * (x3 + x4))), (0, .ref 7), (1, .int x1), (2, .int x2), (3, .int x3), (4, .int x4)]) rfl ?_
          refine X_iload C dX7_changesOf_117 (j := 0) rfl ?_
          refine X_istore C dX7_changesOf_119 (by decide) (L' := [(5, .int ((st.1 41 (((31 * (x3 - 1)) + x4) - 1 : Int32).toNatClampNeg) + 0)), (8, .int ((st.1 41 (((31 * (x3 - 1)) + x4) - 1 : Int32).toNatClampNeg) + 0)), (7, .int (st.1 40 (((30 * x2) + x4) - 1 : Int32).toNatClampNeg)), (6, .int (st.1 40 (((30 * x1) + x3) - 1 : Int32).toNatClampNeg)), (0, .ref 7), (1, .int x1), (2, .int x2), (3, .int x3), (4, .int x4)]) rfl ?_
          refine X_aload_n C dX7_changesOf_121 rfl (j := 4) rfl ?_
          refine X_getR C sh_7 rfl fw_RX7_54 dX7_changesOf_122 ?_
          refine X_bipush C (v := 31) (by decide) dX7_changesOf_125 ?_
          refine X_iload_n C dX7_changesOf_127 rfl (j := 7) rfl ?_
          refine X_iconst C (v := 1) (by decide) dX7_changesOf_128 ?_
          refine X_isub C dX7_changesOf_129 ?_
          refine X_imul C dX7_changesOf_130 ?_
          refine X_iload C dX7_changesOf_131 (j := 8) rfl ?_
          refine X_iadd C dX7_changesOf_133 ?_
          obtain ⟨g7, h⟩ := h
          refine X_iald C sh_41 g7 dX7_changesOf_134 ?_
          refine X_iconst C (v := 2) (by decide) dX7_changesOf_135 ?_
          refine X_iadd C dX7_changesOf_136 ?_
          refine X_istore C dX7_changesOf_137 (by decide) (L' := [(8, .int ((st.1 41 ((31 * (x3 - 1)) + x4 : Int32).toNatClampNeg) + 2)), (5, .int ((st.1 41 (((31 * (x3 - 1)) + x4) - 1 : Int32).toNatClampNeg) + 0)), (7, .int (st.1 40 (((30 * x2) + x4) - 1 : Int32).toNatClampNeg)), (6, .int (st.1 40 (((30 * x1) + x3) - 1 : Int32).toNatClampNeg)), (0, .ref 7), (1, .int x1), (2, .int x2), (3, .int x3), (4, .int x4)]) rfl ?_
          refine X_iload C dX7_changesOf_139 (j := 0) rfl ?_
          refine X_iload C dX7_changesOf_141 (j := 1) rfl ?_
          refine X_icmp_ge C dX7_changesOf_143 (tgt := 151) (by decide) (fun c => ?_) (fun c => ?_)
          · replace h := h.1 c
            refine X_iload C dX7_changesOf_151 (j := 1) rfl ?_
            refine X_istore C dX7_changesOf_153 (by decide) (L' := [(5, .int ((st.1 41 (((31 * (x3 - 1)) + x4) - 1 : Int32).toNatClampNeg) + 0)), (8, .int ((st.1 41 ((31 * (x3 - 1)) + x4 : Int32).toNatClampNeg) + 2)), (7, .int (st.1 40 (((30 * x2) + x4) - 1 : Int32).toNatClampNeg)), (6, .int (st.1 40 (((30 * x1) + x3) - 1 : Int32).toNatClampNeg)), (0, .ref 7), (1, .int x1), (2, .int x2), (3, .int x3), (4, .int x4)]) rfl ?_
            refine X_aload_n C dX7_changesOf_155 rfl (j := 4) rfl ?_
            refine X_getR C sh_7 rfl fw_RX7_54 dX7_changesOf_156 ?_
            refine X_bipush C (v := 31) (by decide) dX7_changesOf_159 ?_
            refine X_iload_n C dX7_changesOf_161 rfl (j := 7) rfl ?_
            refine X_imul C dX7_changesOf_162 ?_
            refine X_iload C dX7_changesOf_163 (j := 8) rfl ?_
            refine X_iadd C dX7_changesOf_165 ?_
            refine X_iconst C (v := 1) (by decide) dX7_changesOf_166 ?_
            refine X_isub C dX7_changesOf_167 ?_
            obtain ⟨g8, h⟩ := h
            refine X_iald C sh_41 g8 dX7_changesOf_168 ?_
            refine X_iconst C (v := 2) (by decide) dX7_changesOf_169 ?_
            refine X_iadd C dX7_changesOf_170 ?_
            refine X_istore C dX7_changesOf_171 (by decide) (L' := [(8, .int ((st.1 41 (((31 * x3) + x4) - 1 : Int32).toNatClampNeg) + 2)), (5, .int ((st.1 41 (((31 * (x3 - 1)) + x4) - 1 : Int32).toNatClampNeg) + 0)), (7, .int (st.1 40 (((30 * x2) + x4) - 1 : Int32).toNatClampNeg)), (6, .int (st.1 40 (((30 * x1) + x3) - 1 : Int32).toNatClampNeg)), (0, .ref 7), (1, .int x1), (2, .int x2), (3, .int x3), (4, .int x4)]) rfl ?_
            refine X_iload C dX7_changesOf_173 (j := 0) rfl ?_
            refine X_iload C dX7_changesOf_175 (j := 1) rfl ?_
            refine X_icmp_ge C dX7_changesOf_177 (tgt := 185) (by decide) (fun c => ?_) (fun c => ?_)
            · replace h := h.1 c
              refine X_iload C dX7_changesOf_185 (j := 1) rfl ?_
              refine X_istore C dX7_changesOf_187 (by decide) (L' := [(5, .int ((st.1 41 (((31 * (x3 - 1)) + x4) - 1 : Int32).toNatClampNeg) + 0)), (8, .int ((st.1 41 (((31 * x3) + x4) - 1 : Int32).toNatClampNeg) + 2)), (7, .int (st.1 40 (((30 * x2) + x4) - 1 : Int32).toNatClampNeg)), (6, .int (st.1 40 (((30 * x1) + x3) - 1 : Int32).toNatClampNeg)), (0, .ref 7), (1, .int x1), (2, .int x2), (3, .int x3), (4, .int x4)]) rfl ?_
              refine X_aload_n C dX7_changesOf_189 rfl (j := 4) rfl ?_
              refine X_getR C sh_7 rfl fw_RX7_54 dX7_changesOf_190 ?_
              refine X_bipush C (v := 31) (by decide) dX7_changesOf_193 ?_
              refine X_iload_n C dX7_changesOf_195 rfl (j := 7) rfl ?_
              refine X_imul C dX7_changesOf_196 ?_
              refine X_iload C dX7_changesOf_197 (j := 8) rfl ?_
              refine X_iadd C dX7_changesOf_199 ?_
              refine X_iload C dX7_changesOf_200 (j := 0) rfl ?_
              obtain ⟨g9, h⟩ := h
              refine X_iast C sh_41 g9 dX7_changesOf_202 ?_
              refine X_iinc C dX7_changesOf_203 (j := 8) rfl (v := x4 + 1) rfl (by decide) (L' := [(4, .int (x4 + 1)), (5, .int ((st.1 41 (((31 * (x3 - 1)) + x4) - 1 : Int32).toNatClampNeg) + 0)), (8, .int ((st.1 41 (((31 * x3) + x4) - 1 : Int32).toNatClampNeg) + 2)), (7, .int (st.1 40 (((30 * x2) + x4) - 1 : Int32).toNatClampNeg)), (6, .int (st.1 40 (((30 * x1) + x3) - 1 : Int32).toNatClampNeg)), (0, .ref 7), (1, .int x1), (2, .int x2), (3, .int x3)]) rfl ?_
              refine X_goto C dX7_changesOf_206 (tgt := 15) (by decide) ?_
              refine X_loc [5, 6, 7, 8, 0] rfl ?_
              exact h
            · replace h := h.2 c
              refine X_iload C dX7_changesOf_180 (j := 0) rfl ?_
              refine X_goto C dX7_changesOf_182 (tgt := 187) (by decide) ?_
              refine X_istore C dX7_changesOf_187 (by decide) (L' := [(5, .int ((st.1 41 (((31 * x3) + x4) - 1 : Int32).toNatClampNeg) + 2)), (8, .int ((st.1 41 (((31 * x3) + x4) - 1 : Int32).toNatClampNeg) + 2)), (7, .int (st.1 40 (((30 * x2) + x4) - 1 : Int32).toNatClampNeg)), (6, .int (st.1 40 (((30 * x1) + x3) - 1 : Int32).toNatClampNeg)), (0, .ref 7), (1, .int x1), (2, .int x2), (3, .int x3), (4, .int x4)]) rfl ?_
              refine X_aload_n C dX7_changesOf_189 rfl (j := 4) rfl ?_
              refine X_getR C sh_7 rfl fw_RX7_54 dX7_changesOf_190 ?_
              refine X_bipush C (v := 31) (by decide) dX7_changesOf_193 ?_
              refine X_iload_n C dX7_changesOf_195 rfl (j := 7) rfl ?_
              refine X_imul C dX7_changesOf_196 ?_
              refine X_iload C dX7_changesOf_197 (j := 8) rfl ?_
              refine X_iadd C dX7_changesOf_199 ?_
              refine X_iload C dX7_changesOf_200 (j := 0) rfl ?_
              obtain ⟨g10, h⟩ := h
              refine X_iast C sh_41 g10 dX7_changesOf_202 ?_
              refine X_iinc C dX7_changesOf_203 (j := 8) rfl (v := x4 + 1) rfl (by decide) (L' := [(4, .int (x4 + 1)), (5, .int ((st.1 41 (((31 * x3) + x4) - 1 : Int32).toNatClampNeg) + 2)), (8, .int ((st.1 41 (((31 * x3) + x4) - 1 : Int32).toNatClampNeg) + 2)), (7, .int (st.1 40 (((30 * x2) + x4) - 1 : Int32).toNatClampNeg)), (6, .int (st.1 40 (((30 * x1) + x3) - 1 : Int32).toNatClampNeg)), (0, .ref 7), (1, .int x1), (2, .int x2), (3, .int x3)]) rfl ?_
              refine X_goto C dX7_changesOf_206 (tgt := 15) (by decide) ?_
              refine X_loc [5, 6, 7, 8, 0] rfl ?_
              exact h
          · replace h := h.2 c
            refine X_iload C dX7_changesOf_146 (j := 0) rfl ?_
            refine X_goto C dX7_changesOf_148 (tgt := 153) (by decide) ?_
            refine X_istore C dX7_changesOf_153 (by decide) (L' := [(5, .int ((st.1 41 ((31 * (x3 - 1)) + x4 : Int32).toNatClampNeg) + 2)), (8, .int ((st.1 41 ((31 * (x3 - 1)) + x4 : Int32).toNatClampNeg) + 2)), (7, .int (st.1 40 (((30 * x2) + x4) - 1 : Int32).toNatClampNeg)), (6, .int (st.1 40 (((30 * x1) + x3) - 1 : Int32).toNatClampNeg)), (0, .ref 7), (1, .int x1), (2, .int x2), (3, .int x3), (4, .int x4)]) rfl ?_
            refine X_aload_n C dX7_changesOf_155 rfl (j := 4) rfl ?_
            refine X_getR C sh_7 rfl fw_RX7_54 dX7_changesOf_156 ?_
            refine X_bipush C (v := 31) (by decide) dX7_changesOf_159 ?_
            refine X_iload_n C dX7_changesOf_161 rfl (j := 7) rfl ?_
            refine X_imul C dX7_changesOf_162 ?_
            refine X_iload C dX7_changesOf_163 (j := 8) rfl ?_
            refine X_iadd C dX7_changesOf_165 ?_
            refine X_iconst C (v := 1) (by decide) dX7_changesOf_166 ?_
            refine X_isub C dX7_changesOf_167 ?_
            obtain ⟨g11, h⟩ := h
            refine X_iald C sh_41 g11 dX7_changesOf_168 ?_
            refine X_iconst C (v := 2) (by decide) dX7_changesOf_169 ?_
            refine X_iadd C dX7_changesOf_170 ?_
            refine X_istore C dX7_changesOf_171 (by decide) (L' := [(8, .int ((st.1 41 (((31 * x3) + x4) - 1 : Int32).toNatClampNeg) + 2)), (5, .int ((st.1 41 ((31 * (x3 - 1)) + x4 : Int32).toNatClampNeg) + 2)), (7, .int (st.1 40 (((30 * x2) + x4) - 1 : Int32).toNatClampNeg)), (6, .int (st.1 40 (((30 * x1) + x3) - 1 : Int32).toNatClampNeg)), (0, .ref 7), (1, .int x1), (2, .int x2), (3, .int x3), (4, .int x4)]) rfl ?_
            refine X_iload C dX7_changesOf_173 (j := 0) rfl ?_
            refine X_iload C dX7_changesOf_175 (j := 1) rfl ?_
            refine X_icmp_ge C dX7_changesOf_177 (tgt := 185) (by decide) (fun c => ?_) (fun c => ?_)
            · replace h := h.1 c
              refine X_iload C dX7_changesOf_185 (j := 1) rfl ?_
              refine X_istore C dX7_changesOf_187 (by decide) (L' := [(5, .int ((st.1 41 ((31 * (x3 - 1)) + x4 : Int32).toNatClampNeg) + 2)), (8, .int ((st.1 41 (((31 * x3) + x4) - 1 : Int32).toNatClampNeg) + 2)), (7, .int (st.1 40 (((30 * x2) + x4) - 1 : Int32).toNatClampNeg)), (6, .int (st.1 40 (((30 * x1) + x3) - 1 : Int32).toNatClampNeg)), (0, .ref 7), (1, .int x1), (2, .int x2), (3, .int x3), (4, .int x4)]) rfl ?_
              refine X_aload_n C dX7_changesOf_189 rfl (j := 4) rfl ?_
              refine X_getR C sh_7 rfl fw_RX7_54 dX7_changesOf_190 ?_
              refine X_bipush C (v := 31) (by decide) dX7_changesOf_193 ?_
              refine X_iload_n C dX7_changesOf_195 rfl (j := 7) rfl ?_
              refine X_imul C dX7_changesOf_196 ?_
              refine X_iload C dX7_changesOf_197 (j := 8) rfl ?_
              refine X_iadd C dX7_changesOf_199 ?_
              refine X_iload C dX7_changesOf_200 (j := 0) rfl ?_
              obtain ⟨g12, h⟩ := h
              refine X_iast C sh_41 g12 dX7_changesOf_202 ?_
              refine X_iinc C dX7_changesOf_203 (j := 8) rfl (v := x4 + 1) rfl (by decide) (L' := [(4, .int (x4 + 1)), (5, .int ((st.1 41 ((31 * (x3 - 1)) + x4 : Int32).toNatClampNeg) + 2)), (8, .int ((st.1 41 (((31 * x3) + x4) - 1 : Int32).toNatClampNeg) + 2)), (7, .int (st.1 40 (((30 * x2) + x4) - 1 : Int32).toNatClampNeg)), (6, .int (st.1 40 (((30 * x1) + x3) - 1 : Int32).toNatClampNeg)), (0, .ref 7), (1, .int x1), (2, .int x2), (3, .int x3)]) rfl ?_
              refine X_goto C dX7_changesOf_206 (tgt := 15) (by decide) ?_
              refine X_loc [5, 6, 7, 8, 0] rfl ?_
              exact h
            · replace h := h.2 c
              refine X_iload C dX7_changesOf_180 (j := 0) rfl ?_
              refine X_goto C dX7_changesOf_182 (tgt := 187) (by decide) ?_
              refine X_istore C dX7_changesOf_187 (by decide) (L' := [(5, .int ((st.1 41 (((31 * x3) + x4) - 1 : Int32).toNatClampNeg) + 2)), (8, .int ((st.1 41 (((31 * x3) + x4) - 1 : Int32).toNatClampNeg) + 2)), (7, .int (st.1 40 (((30 * x2) + x4) - 1 : Int32).toNatClampNeg)), (6, .int (st.1 40 (((30 * x1) + x3) - 1 : Int32).toNatClampNeg)), (0, .ref 7), (1, .int x1), (2, .int x2), (3, .int x3), (4, .int x4)]) rfl ?_
              refine X_aload_n C dX7_changesOf_189 rfl (j := 4) rfl ?_
              refine X_getR C sh_7 rfl fw_RX7_54 dX7_changesOf_190 ?_
              refine X_bipush C (v := 31) (by decide) dX7_changesOf_193 ?_
              refine X_iload_n C dX7_changesOf_195 rfl (j := 7) rfl ?_
              refine X_imul C dX7_changesOf_196 ?_
              refine X_iload C dX7_changesOf_197 (j := 8) rfl ?_
              refine X_iadd C dX7_changesOf_199 ?_
              refine X_iload C dX7_changesOf_200 (j := 0) rfl ?_
              obtain ⟨g13, h⟩ := h
              refine X_iast C sh_41 g13 dX7_changesOf_202 ?_
              refine X_iinc C dX7_changesOf_203 (j := 8) rfl (v := x4 + 1) rfl (by decide) (L' := [(4, .int (x4 + 1)), (5, .int ((st.1 41 (((31 * x3) + x4) - 1 : Int32).toNatClampNeg) + 2)), (8, .int ((st.1 41 (((31 * x3) + x4) - 1 : Int32).toNatClampNeg) + 2)), (7, .int (st.1 40 (((30 * x2) + x4) - 1 : Int32).toNatClampNeg)), (6, .int (st.1 40 (((30 * x1) + x3) - 1 : Int32).toNatClampNeg)), (0, .ref 7), (1, .int x1), (2, .int x2), (3, .int x3)]) rfl ?_
              refine X_goto C dX7_changesOf_206 (tgt := 15) (by decide) ?_
              refine X_loc [5, 6, 7, 8, 0] rfl ?_
              exact h
        · replace h := h.2 c
          refine X_iload C dX7_changesOf_97 (j := 1) rfl ?_
          refine X_iconst C (v := (-1)) (by decide) dX7_changesOf_99 ?_
          refine X_icmp_eq C dX7_changesOf_100 (tgt := 109) (by decide) (fun c => ?_) (fun c => ?_)
          · replace h := h.1 c
            refine X_iconst C (v := 0) (by decide) dX7_changesOf_109 ?_
            refine X_goto C dX7_changesOf_110 (tgt := 114) (by decide) ?_
            refine X_iadd C dX7_changesOf_114 ?_
            refine X_istore C dX7_changesOf_115 (by decide) (L' := [(8, .int ((st.1 41 (((31 * (x3 - 1)) + x4) - 1 : Int32).toNatClampNeg) + 0)), (7, .int (st.1 40 (((30 * x2) + x4) - 1 : Int32).toNatClampNeg)), (6, .int (st.1 40 (((30 * x1) + x3) - 1 : Int32).toNatClampNeg)), (5, .int (2 * (x3 + x4))), (0, .ref 7), (1, .int x1), (2, .int x2), (3, .int x3), (4, .int x4)]) rfl ?_
            refine X_iload C dX7_changesOf_117 (j := 0) rfl ?_
            refine X_istore C dX7_changesOf_119 (by decide) (L' := [(5, .int ((st.1 41 (((31 * (x3 - 1)) + x4) - 1 : Int32).toNatClampNeg) + 0)), (8, .int ((st.1 41 (((31 * (x3 - 1)) + x4) - 1 : Int32).toNatClampNeg) + 0)), (7, .int (st.1 40 (((30 * x2) + x4) - 1 : Int32).toNatClampNeg)), (6, .int (st.1 40 (((30 * x1) + x3) - 1 : Int32).toNatClampNeg)), (0, .ref 7), (1, .int x1), (2, .int x2), (3, .int x3), (4, .int x4)]) rfl ?_
            refine X_aload_n C dX7_changesOf_121 rfl (j := 4) rfl ?_
            refine X_getR C sh_7 rfl fw_RX7_54 dX7_changesOf_122 ?_
            refine X_bipush C (v := 31) (by decide) dX7_changesOf_125 ?_
            refine X_iload_n C dX7_changesOf_127 rfl (j := 7) rfl ?_
            refine X_iconst C (v := 1) (by decide) dX7_changesOf_128 ?_
            refine X_isub C dX7_changesOf_129 ?_
            refine X_imul C dX7_changesOf_130 ?_
            refine X_iload C dX7_changesOf_131 (j := 8) rfl ?_
            refine X_iadd C dX7_changesOf_133 ?_
            obtain ⟨g14, h⟩ := h
            refine X_iald C sh_41 g14 dX7_changesOf_134 ?_
            refine X_iconst C (v := 2) (by decide) dX7_changesOf_135 ?_
            refine X_iadd C dX7_changesOf_136 ?_
            refine X_istore C dX7_changesOf_137 (by decide) (L' := [(8, .int ((st.1 41 ((31 * (x3 - 1)) + x4 : Int32).toNatClampNeg) + 2)), (5, .int ((st.1 41 (((31 * (x3 - 1)) + x4) - 1 : Int32).toNatClampNeg) + 0)), (7, .int (st.1 40 (((30 * x2) + x4) - 1 : Int32).toNatClampNeg)), (6, .int (st.1 40 (((30 * x1) + x3) - 1 : Int32).toNatClampNeg)), (0, .ref 7), (1, .int x1), (2, .int x2), (3, .int x3), (4, .int x4)]) rfl ?_
            refine X_iload C dX7_changesOf_139 (j := 0) rfl ?_
            refine X_iload C dX7_changesOf_141 (j := 1) rfl ?_
            refine X_icmp_ge C dX7_changesOf_143 (tgt := 151) (by decide) (fun c => ?_) (fun c => ?_)
            · replace h := h.1 c
              refine X_iload C dX7_changesOf_151 (j := 1) rfl ?_
              refine X_istore C dX7_changesOf_153 (by decide) (L' := [(5, .int ((st.1 41 (((31 * (x3 - 1)) + x4) - 1 : Int32).toNatClampNeg) + 0)), (8, .int ((st.1 41 ((31 * (x3 - 1)) + x4 : Int32).toNatClampNeg) + 2)), (7, .int (st.1 40 (((30 * x2) + x4) - 1 : Int32).toNatClampNeg)), (6, .int (st.1 40 (((30 * x1) + x3) - 1 : Int32).toNatClampNeg)), (0, .ref 7), (1, .int x1), (2, .int x2), (3, .int x3), (4, .int x4)]) rfl ?_
              refine X_aload_n C dX7_changesOf_155 rfl (j := 4) rfl ?_
              refine X_getR C sh_7 rfl fw_RX7_54 dX7_changesOf_156 ?_
              refine X_bipush C (v := 31) (by decide) dX7_changesOf_159 ?_
              refine X_iload_n C dX7_changesOf_161 rfl (j := 7) rfl ?_
              refine X_imul C dX7_changesOf_162 ?_
              refine X_iload C dX7_changesOf_163 (j := 8) rfl ?_
              refine X_iadd C dX7_changesOf_165 ?_
              refine X_iconst C (v := 1) (by decide) dX7_changesOf_166 ?_
              refine X_isub C dX7_changesOf_167 ?_
              obtain ⟨g15, h⟩ := h
              refine X_iald C sh_41 g15 dX7_changesOf_168 ?_
              refine X_iconst C (v := 2) (by decide) dX7_changesOf_169 ?_
              refine X_iadd C dX7_changesOf_170 ?_
              refine X_istore C dX7_changesOf_171 (by decide) (L' := [(8, .int ((st.1 41 (((31 * x3) + x4) - 1 : Int32).toNatClampNeg) + 2)), (5, .int ((st.1 41 (((31 * (x3 - 1)) + x4) - 1 : Int32).toNatClampNeg) + 0)), (7, .int (st.1 40 (((30 * x2) + x4) - 1 : Int32).toNatClampNeg)), (6, .int (st.1 40 (((30 * x1) + x3) - 1 : Int32).toNatClampNeg)), (0, .ref 7), (1, .int x1), (2, .int x2), (3, .int x3), (4, .int x4)]) rfl ?_
              refine X_iload C dX7_changesOf_173 (j := 0) rfl ?_
              refine X_iload C dX7_changesOf_175 (j := 1) rfl ?_
              refine X_icmp_ge C dX7_changesOf_177 (tgt := 185) (by decide) (fun c => ?_) (fun c => ?_)
              · replace h := h.1 c
                refine X_iload C dX7_changesOf_185 (j := 1) rfl ?_
                refine X_istore C dX7_changesOf_187 (by decide) (L' := [(5, .int ((st.1 41 (((31 * (x3 - 1)) + x4) - 1 : Int32).toNatClampNeg) + 0)), (8, .int ((st.1 41 (((31 * x3) + x4) - 1 : Int32).toNatClampNeg) + 2)), (7, .int (st.1 40 (((30 * x2) + x4) - 1 : Int32).toNatClampNeg)), (6, .int (st.1 40 (((30 * x1) + x3) - 1 : Int32).toNatClampNeg)), (0, .ref 7), (1, .int x1), (2, .int x2), (3, .int x3), (4, .int x4)]) rfl ?_
                refine X_aload_n C dX7_changesOf_189 rfl (j := 4) rfl ?_
                refine X_getR C sh_7 rfl fw_RX7_54 dX7_changesOf_190 ?_
                refine X_bipush C (v := 31) (by decide) dX7_changesOf_193 ?_
                refine X_iload_n C dX7_changesOf_195 rfl (j := 7) rfl ?_
                refine X_imul C dX7_changesOf_196 ?_
                refine X_iload C dX7_changesOf_197 (j := 8) rfl ?_
                refine X_iadd C dX7_changesOf_199 ?_
                refine X_iload C dX7_changesOf_200 (j := 0) rfl ?_
                obtain ⟨g16, h⟩ := h
                refine X_iast C sh_41 g16 dX7_changesOf_202 ?_
                refine X_iinc C dX7_changesOf_203 (j := 8) rfl (v := x4 + 1) rfl (by decide) (L' := [(4, .int (x4 + 1)), (5, .int ((st.1 41 (((31 * (x3 - 1)) + x4) - 1 : Int32).toNatClampNeg) + 0)), (8, .int ((st.1 41 (((31 * x3) + x4) - 1 : Int32).toNatClampNeg) + 2)), (7, .int (st.1 40 (((30 * x2) + x4) - 1 : Int32).toNatClampNeg)), (6, .int (st.1 40 (((30 * x1) + x3) - 1 : Int32).toNatClampNeg)), (0, .ref 7), (1, .int x1), (2, .int x2), (3, .int x3)]) rfl ?_
                refine X_goto C dX7_changesOf_206 (tgt := 15) (by decide) ?_
                refine X_loc [5, 6, 7, 8, 0] rfl ?_
                exact h
              · replace h := h.2 c
                refine X_iload C dX7_changesOf_180 (j := 0) rfl ?_
                refine X_goto C dX7_changesOf_182 (tgt := 187) (by decide) ?_
                refine X_istore C dX7_changesOf_187 (by decide) (L' := [(5, .int ((st.1 41 (((31 * x3) + x4) - 1 : Int32).toNatClampNeg) + 2)), (8, .int ((st.1 41 (((31 * x3) + x4) - 1 : Int32).toNatClampNeg) + 2)), (7, .int (st.1 40 (((30 * x2) + x4) - 1 : Int32).toNatClampNeg)), (6, .int (st.1 40 (((30 * x1) + x3) - 1 : Int32).toNatClampNeg)), (0, .ref 7), (1, .int x1), (2, .int x2), (3, .int x3), (4, .int x4)]) rfl ?_
                refine X_aload_n C dX7_changesOf_189 rfl (j := 4) rfl ?_
                refine X_getR C sh_7 rfl fw_RX7_54 dX7_changesOf_190 ?_
                refine X_bipush C (v := 31) (by decide) dX7_changesOf_193 ?_
                refine X_iload_n C dX7_changesOf_195 rfl (j := 7) rfl ?_
                refine X_imul C dX7_changesOf_196 ?_
                refine X_iload C dX7_changesOf_197 (j := 8) rfl ?_
                refine X_iadd C dX7_changesOf_199 ?_
                refine X_iload C dX7_changesOf_200 (j := 0) rfl ?_
                obtain ⟨g17, h⟩ := h
                refine X_iast C sh_41 g17 dX7_changesOf_202 ?_
                refine X_iinc C dX7_changesOf_203 (j := 8) rfl (v := x4 + 1) rfl (by decide) (L' := [(4, .int (x4 + 1)), (5, .int ((st.1 41 (((31 * x3) + x4) - 1 : Int32).toNatClampNeg) + 2)), (8, .int ((st.1 41 (((31 * x3) + x4) - 1 : Int32).toNatClampNeg) + 2)), (7, .int (st.1 40 (((30 * x2) + x4) - 1 : Int32).toNatClampNeg)), (6, .int (st.1 40 (((30 * x1) + x3) - 1 : Int32).toNatClampNeg)), (0, .ref 7), (1, .int x1), (2, .int x2), (3, .int x3)]) rfl ?_
                refine X_goto C dX7_changesOf_206 (tgt := 15) (by decide) ?_
                refine X_loc [5, 6, 7, 8, 0] rfl ?_
                exact h
            · replace h := h.2 c
              refine X_iload C dX7_changesOf_146 (j := 0) rfl ?_
              refine X_goto C dX7_changesOf_148 (tgt := 153) (by decide) ?_
              refine X_istore C dX7_changesOf_153 (by decide) (L' := [(5, .int ((st.1 41 ((31 * (x3 - 1)) + x4 : Int32).toNatClampNeg) + 2)), (8, .int ((st.1 41 ((31 * (x3 - 1)) + x4 : Int32).toNatClampNeg) + 2)), (7, .int (st.1 40 (((30 * x2) + x4) - 1 : Int32).toNatClampNeg)), (6, .int (st.1 40 (((30 * x1) + x3) - 1 : Int32).toNatClampNeg)), (0, .ref 7), (1, .int x1), (2, .int x2), (3, .int x3), (4, .int x4)]) rfl ?_
              refine X_aload_n C dX7_changesOf_155 rfl (j := 4) rfl ?_
              refine X_getR C sh_7 rfl fw_RX7_54 dX7_changesOf_156 ?_
              refine X_bipush C (v := 31) (by decide) dX7_changesOf_159 ?_
              refine X_iload_n C dX7_changesOf_161 rfl (j := 7) rfl ?_
              refine X_imul C dX7_changesOf_162 ?_
              refine X_iload C dX7_changesOf_163 (j := 8) rfl ?_
              refine X_iadd C dX7_changesOf_165 ?_
              refine X_iconst C (v := 1) (by decide) dX7_changesOf_166 ?_
              refine X_isub C dX7_changesOf_167 ?_
              obtain ⟨g18, h⟩ := h
              refine X_iald C sh_41 g18 dX7_changesOf_168 ?_
              refine X_iconst C (v := 2) (by decide) dX7_changesOf_169 ?_
              refine X_iadd C dX7_changesOf_170 ?_
              refine X_istore C dX7_changesOf_171 (by decide) (L' := [(8, .int ((st.1 41 (((31 * x3) + x4) - 1 : Int32).toNatClampNeg) + 2)), (5, .int ((st.1 41 ((31 * (x3 - 1)) + x4 : Int32).toNatClampNeg) + 2)), (7, .int (st.1 40 (((30 * x2) + x4) - 1 : Int32).toNatClampNeg)), (6, .int (st.1 40 (((30 * x1) + x3) - 1 : Int32).toNatClampNeg)), (0, .ref 7), (1, .int x1), (2, .int x2), (3, .int x3), (4, .int x4)]) rfl ?_
              refine X_iload C dX7_changesOf_173 (j := 0) rfl ?_
              refine X_iload C dX7_changesOf_175 (j := 1) rfl ?_
              refine X_icmp_ge C dX7_changesOf_177 (tgt := 185) (by decide) (fun c => ?_) (fun c => ?_)
              · replace h := h.1 c
                refine X_iload C dX7_changesOf_185 (j := 1) rfl ?_
                refine X_istore C dX7_changesOf_187 (by decide) (L' := [(5, .int ((st.1 41 ((31 * (x3 - 1)) + x4 : Int32).toNatClampNeg) + 2)), (8, .int ((st.1 41 (((31 * x3) + x4) - 1 : Int32).toNatClampNeg) + 2)), (7, .int (st.1 40 (((30 * x2) + x4) - 1 : Int32).toNatClampNeg)), (6, .int (st.1 40 (((30 * x1) + x3) - 1 : Int32).toNatClampNeg)), (0, .ref 7), (1, .int x1), (2, .int x2), (3, .int x3), (4, .int x4)]) rfl ?_
                refine X_aload_n C dX7_changesOf_189 rfl (j := 4) rfl ?_
                refine X_getR C sh_7 rfl fw_RX7_54 dX7_changesOf_190 ?_
                refine X_bipush C (v := 31) (by decide) dX7_changesOf_193 ?_
                refine X_iload_n C dX7_changesOf_195 rfl (j := 7) rfl ?_
                refine X_imul C dX7_changesOf_196 ?_
                refine X_iload C dX7_changesOf_197 (j := 8) rfl ?_
                refine X_iadd C dX7_changesOf_199 ?_
                refine X_iload C dX7_changesOf_200 (j := 0) rfl ?_
                obtain ⟨g19, h⟩ := h
                refine X_iast C sh_41 g19 dX7_changesOf_202 ?_
                refine X_iinc C dX7_changesOf_203 (j := 8) rfl (v := x4 + 1) rfl (by decide) (L' := [(4, .int (x4 + 1)), (5, .int ((st.1 41 ((31 * (x3 - 1)) + x4 : Int32).toNatClampNeg) + 2)), (8, .int ((st.1 41 (((31 * x3) + x4) - 1 : Int32).toNatClampNeg) + 2)), (7, .int (st.1 40 (((30 * x2) + x4) - 1 : Int32).toNatClampNeg)), (6, .int (st.1 40 (((30 * x1) + x3) - 1 : Int32).toNatClampNeg)), (0, .ref 7), (1, .int x1), (2, .int x2), (3, .int x3)]) rfl ?_
                refine X_goto C dX7_changesOf_206 (tgt := 15) (by decide) ?_
                refine X_loc [5, 6, 7, 8, 0] rfl ?_
                exact h
              · replace h := h.2 c
                refine X_iload C dX7_changesOf_180 (j := 0) rfl ?_
                refine X_goto C dX7_changesOf_182 (tgt := 187) (by decide) ?_
                refine X_istore C dX7_changesOf_187 (by decide) (L' := [(5, .int ((st.1 41 (((31 * x3) + x4) - 1 : Int32).toNatClampNeg) + 2)), (8, .int ((st.1 41 (((31 * x3) + x4) - 1 : Int32).toNatClampNeg) + 2)), (7, .int (st.1 40 (((30 * x2) + x4) - 1 : Int32).toNatClampNeg)), (6, .int (st.1 40 (((30 * x1) + x3) - 1 : Int32).toNatClampNeg)), (0, .ref 7), (1, .int x1), (2, .int x2), (3, .int x3), (4, .int x4)]) rfl ?_
                refine X_aload_n C dX7_changesOf_189 rfl (j := 4) rfl ?_
                refine X_getR C sh_7 rfl fw_RX7_54 dX7_changesOf_190 ?_
                refine X_bipush C (v := 31) (by decide) dX7_changesOf_193 ?_
                refine X_iload_n C dX7_changesOf_195 rfl (j := 7) rfl ?_
                refine X_imul C dX7_changesOf_196 ?_
                refine X_iload C dX7_changesOf_197 (j := 8) rfl ?_
                refine X_iadd C dX7_changesOf_199 ?_
                refine X_iload C dX7_changesOf_200 (j := 0) rfl ?_
                obtain ⟨g20, h⟩ := h
                refine X_iast C sh_41 g20 dX7_changesOf_202 ?_
                refine X_iinc C dX7_changesOf_203 (j := 8) rfl (v := x4 + 1) rfl (by decide) (L' := [(4, .int (x4 + 1)), (5, .int ((st.1 41 (((31 * x3) + x4) - 1 : Int32).toNatClampNeg) + 2)), (8, .int ((st.1 41 (((31 * x3) + x4) - 1 : Int32).toNatClampNeg) + 2)), (7, .int (st.1 40 (((30 * x2) + x4) - 1 : Int32).toNatClampNeg)), (6, .int (st.1 40 (((30 * x1) + x3) - 1 : Int32).toNatClampNeg)), (0, .ref 7), (1, .int x1), (2, .int x2), (3, .int x3)]) rfl ?_
                refine X_goto C dX7_changesOf_206 (tgt := 15) (by decide) ?_
                refine X_loc [5, 6, 7, 8, 0] rfl ?_
                exact h
          · replace h := h.2 c
            refine X_iload C dX7_changesOf_103 (j := 0) rfl ?_
            refine X_iconst C (v := (-1)) (by decide) dX7_changesOf_105 ?_
            refine X_icmp_ne C dX7_changesOf_106 (tgt := 113) (by decide) (fun c => ?_) (fun c => ?_)
            · replace h := h.1 c
              refine X_iconst C (v := 3) (by decide) dX7_changesOf_113 ?_
              refine X_iadd C dX7_changesOf_114 ?_
              refine X_istore C dX7_changesOf_115 (by decide) (L' := [(8, .int ((st.1 41 (((31 * (x3 - 1)) + x4) - 1 : Int32).toNatClampNeg) + 3)), (7, .int (st.1 40 (((30 * x2) + x4) - 1 : Int32).toNatClampNeg)), (6, .int (st.1 40 (((30 * x1) + x3) - 1 : Int32).toNatClampNeg)), (5, .int (2 * (x3 + x4))), (0, .ref 7), (1, .int x1), (2, .int x2), (3, .int x3), (4, .int x4)]) rfl ?_
              refine X_iload C dX7_changesOf_117 (j := 0) rfl ?_
              refine X_istore C dX7_changesOf_119 (by decide) (L' := [(5, .int ((st.1 41 (((31 * (x3 - 1)) + x4) - 1 : Int32).toNatClampNeg) + 3)), (8, .int ((st.1 41 (((31 * (x3 - 1)) + x4) - 1 : Int32).toNatClampNeg) + 3)), (7, .int (st.1 40 (((30 * x2) + x4) - 1 : Int32).toNatClampNeg)), (6, .int (st.1 40 (((30 * x1) + x3) - 1 : Int32).toNatClampNeg)), (0, .ref 7), (1, .int x1), (2, .int x2), (3, .int x3), (4, .int x4)]) rfl ?_
              refine X_aload_n C dX7_changesOf_121 rfl (j := 4) rfl ?_
              refine X_getR C sh_7 rfl fw_RX7_54 dX7_changesOf_122 ?_
              refine X_bipush C (v := 31) (by decide) dX7_changesOf_125 ?_
              refine X_iload_n C dX7_changesOf_127 rfl (j := 7) rfl ?_
              refine X_iconst C (v := 1) (by decide) dX7_changesOf_128 ?_
              refine X_isub C dX7_changesOf_129 ?_
              refine X_imul C dX7_changesOf_130 ?_
              refine X_iload C dX7_changesOf_131 (j := 8) rfl ?_
              refine X_iadd C dX7_changesOf_133 ?_
              obtain ⟨g21, h⟩ := h
              refine X_iald C sh_41 g21 dX7_changesOf_134 ?_
              refine X_iconst C (v := 2) (by decide) dX7_changesOf_135 ?_
              refine X_iadd C dX7_changesOf_136 ?_
              refine X_istore C dX7_changesOf_137 (by decide) (L' := [(8, .int ((st.1 41 ((31 * (x3 - 1)) + x4 : Int32).toNatClampNeg) + 2)), (5, .int ((st.1 41 (((31 * (x3 - 1)) + x4) - 1 : Int32).toNatClampNeg) + 3)), (7, .int (st.1 40 (((30 * x2) + x4) - 1 : Int32).toNatClampNeg)), (6, .int (st.1 40 (((30 * x1) + x3) - 1 : Int32).toNatClampNeg)), (0, .ref 7), (1, .int x1), (2, .int x2), (3, .int x3), (4, .int x4)]) rfl ?_
              refine X_iload C dX7_changesOf_139 (j := 0) rfl ?_
              refine X_iload C dX7_changesOf_141 (j := 1) rfl ?_
              refine X_icmp_ge C dX7_changesOf_143 (tgt := 151) (by decide) (fun c => ?_) (fun c => ?_)
              · replace h := h.1 c
                refine X_iload C dX7_changesOf_151 (j := 1) rfl ?_
                refine X_istore C dX7_changesOf_153 (by decide) (L' := [(5, .int ((st.1 41 (((31 * (x3 - 1)) + x4) - 1 : Int32).toNatClampNeg) + 3)), (8, .int ((st.1 41 ((31 * (x3 - 1)) + x4 : Int32).toNatClampNeg) + 2)), (7, .int (st.1 40 (((30 * x2) + x4) - 1 : Int32).toNatClampNeg)), (6, .int (st.1 40 (((30 * x1) + x3) - 1 : Int32).toNatClampNeg)), (0, .ref 7), (1, .int x1), (2, .int x2), (3, .int x3), (4, .int x4)]) rfl ?_
                refine X_aload_n C dX7_changesOf_155 rfl (j := 4) rfl ?_
                refine X_getR C sh_7 rfl fw_RX7_54 dX7_changesOf_156 ?_
                refine X_bipush C (v := 31) (by decide) dX7_changesOf_159 ?_
                refine X_iload_n C dX7_changesOf_161 rfl (j := 7) rfl ?_
                refine X_imul C dX7_changesOf_162 ?_
                refine X_iload C dX7_changesOf_163 (j := 8) rfl ?_
                refine X_iadd C dX7_changesOf_165 ?_
                refine X_iconst C (v := 1) (by decide) dX7_changesOf_166 ?_
                refine X_isub C dX7_changesOf_167 ?_
                obtain ⟨g22, h⟩ := h
                refine X_iald C sh_41 g22 dX7_changesOf_168 ?_
                refine X_iconst C (v := 2) (by decide) dX7_changesOf_169 ?_
                refine X_iadd C dX7_changesOf_170 ?_
                refine X_istore C dX7_changesOf_171 (by decide) (L' := [(8, .int ((st.1 41 (((31 * x3) + x4) - 1 : Int32).toNatClampNeg) + 2)), (5, .int ((st.1 41 (((31 * (x3 - 1)) + x4) - 1 : Int32).toNatClampNeg) + 3)), (7, .int (st.1 40 (((30 * x2) + x4) - 1 : Int32).toNatClampNeg)), (6, .int (st.1 40 (((30 * x1) + x3) - 1 : Int32).toNatClampNeg)), (0, .ref 7), (1, .int x1), (2, .int x2), (3, .int x3), (4, .int x4)]) rfl ?_
                refine X_iload C dX7_changesOf_173 (j := 0) rfl ?_
                refine X_iload C dX7_changesOf_175 (j := 1) rfl ?_
                refine X_icmp_ge C dX7_changesOf_177 (tgt := 185) (by decide) (fun c => ?_) (fun c => ?_)
                · replace h := h.1 c
                  refine X_iload C dX7_changesOf_185 (j := 1) rfl ?_
                  refine X_istore C dX7_changesOf_187 (by decide) (L' := [(5, .int ((st.1 41 (((31 * (x3 - 1)) + x4) - 1 : Int32).toNatClampNeg) + 3)), (8, .int ((st.1 41 (((31 * x3) + x4) - 1 : Int32).toNatClampNeg) + 2)), (7, .int (st.1 40 (((30 * x2) + x4) - 1 : Int32).toNatClampNeg)), (6, .int (st.1 40 (((30 * x1) + x3) - 1 : Int32).toNatClampNeg)), (0, .ref 7), (1, .int x1), (2, .int x2), (3, .int x3), (4, .int x4)]) rfl ?_
                  refine X_aload_n C dX7_changesOf_189 rfl (j := 4) rfl ?_
                  refine X_getR C sh_7 rfl fw_RX7_54 dX7_changesOf_190 ?_
                  refine X_bipush C (v := 31) (by decide) dX7_changesOf_193 ?_
                  refine X_iload_n C dX7_changesOf_195 rfl (j := 7) rfl ?_
                  refine X_imul C dX7_changesOf_196 ?_
                  refine X_iload C dX7_changesOf_197 (j := 8) rfl ?_
                  refine X_iadd C dX7_changesOf_199 ?_
                  refine X_iload C dX7_changesOf_200 (j := 0) rfl ?_
                  obtain ⟨g23, h⟩ := h
                  refine X_iast C sh_41 g23 dX7_changesOf_202 ?_
                  refine X_iinc C dX7_changesOf_203 (j := 8) rfl (v := x4 + 1) rfl (by decide) (L' := [(4, .int (x4 + 1)), (5, .int ((st.1 41 (((31 * (x3 - 1)) + x4) - 1 : Int32).toNatClampNeg) + 3)), (8, .int ((st.1 41 (((31 * x3) + x4) - 1 : Int32).toNatClampNeg) + 2)), (7, .int (st.1 40 (((30 * x2) + x4) - 1 : Int32).toNatClampNeg)), (6, .int (st.1 40 (((30 * x1) + x3) - 1 : Int32).toNatClampNeg)), (0, .ref 7), (1, .int x1), (2, .int x2), (3, .int x3)]) rfl ?_
                  refine X_goto C dX7_changesOf_206 (tgt := 15) (by decide) ?_
                  refine X_loc [5, 6, 7, 8, 0] rfl ?_
                  exact h
                · replace h := h.2 c
                  refine X_iload C dX7_changesOf_180 (j := 0) rfl ?_
                  refine X_goto C dX7_changesOf_182 (tgt := 187) (by decide) ?_
                  refine X_istore C dX7_changesOf_187 (by decide) (L' := [(5, .int ((st.1 41 (((31 * x3) + x4) - 1 : Int32).toNatClampNeg) + 2)), (8, .int ((st.1 41 (((31 * x3) + x4) - 1 : Int32).toNatClampNeg) + 2)), (7, .int (st.1 40 (((30 * x2) + x4) - 1 : Int32).toNatClampNeg)), (6, .int (st.1 40 (((30 * x1) + x3) - 1 : Int32).toNatClampNeg)), (0, .ref 7), (1, .int x1), (2, .int x2), (3, .int x3), (4, .int x4)]) rfl ?_
                  refine X_aload_n C dX7_changesOf_189 rfl (j := 4) rfl ?_
                  refine X_getR C sh_7 rfl fw_RX7_54 dX7_changesOf_190 ?_
                  refine X_bipush C (v := 31) (by decide) dX7_changesOf_193 ?_
                  refine X_iload_n C dX7_changesOf_195 rfl (j := 7) rfl ?_
                  refine X_imul C dX7_changesOf_196 ?_
                  refine X_iload C dX7_changesOf_197 (j := 8) rfl ?_
                  refine X_iadd C dX7_changesOf_199 ?_
                  refine X_iload C dX7_changesOf_200 (j := 0) rfl ?_
                  obtain ⟨g24, h⟩ := h
                  refine X_iast C sh_41 g24 dX7_changesOf_202 ?_
                  refine X_iinc C dX7_changesOf_203 (j := 8) rfl (v := x4 + 1) rfl (by decide) (L' := [(4, .int (x4 + 1)), (5, .int ((st.1 41 (((31 * x3) + x4) - 1 : Int32).toNatClampNeg) + 2)), (8, .int ((st.1 41 (((31 * x3) + x4) - 1 : Int32).toNatClampNeg) + 2)), (7, .int (st.1 40 (((30 * x2) + x4) - 1 : Int32).toNatClampNeg)), (6, .int (st.1 40 (((30 * x1) + x3) - 1 : Int32).toNatClampNeg)), (0, .ref 7), (1, .int x1), (2, .int x2), (3, .int x3)]) rfl ?_
                  refine X_goto C dX7_changesOf_206 (tgt := 15) (by decide) ?_
                  refine X_loc [5, 6, 7, 8, 0] rfl ?_
                  exact h
              · replace h := h.2 c
                refine X_iload C dX7_changesOf_146 (j := 0) rfl ?_
                refine X_goto C dX7_changesOf_148 (tgt := 153) (by decide) ?_
                refine X_istore C dX7_changesOf_153 (by decide) (L' := [(5, .int ((st.1 41 ((31 * (x3 - 1)) + x4 : Int32).toNatClampNeg) + 2)), (8, .int ((st.1 41 ((31 * (x3 - 1)) + x4 : Int32).toNatClampNeg) + 2)), (7, .int (st.1 40 (((30 * x2) + x4) - 1 : Int32).toNatClampNeg)), (6, .int (st.1 40 (((30 * x1) + x3) - 1 : Int32).toNatClampNeg)), (0, .ref 7), (1, .int x1), (2, .int x2), (3, .int x3), (4, .int x4)]) rfl ?_
                refine X_aload_n C dX7_changesOf_155 rfl (j := 4) rfl ?_
                refine X_getR C sh_7 rfl fw_RX7_54 dX7_changesOf_156 ?_
                refine X_bipush C (v := 31) (by decide) dX7_changesOf_159 ?_
                refine X_iload_n C dX7_changesOf_161 rfl (j := 7) rfl ?_
                refine X_imul C dX7_changesOf_162 ?_
                refine X_iload C dX7_changesOf_163 (j := 8) rfl ?_
                refine X_iadd C dX7_changesOf_165 ?_
                refine X_iconst C (v := 1) (by decide) dX7_changesOf_166 ?_
                refine X_isub C dX7_changesOf_167 ?_
                obtain ⟨g25, h⟩ := h
                refine X_iald C sh_41 g25 dX7_changesOf_168 ?_
                refine X_iconst C (v := 2) (by decide) dX7_changesOf_169 ?_
                refine X_iadd C dX7_changesOf_170 ?_
                refine X_istore C dX7_changesOf_171 (by decide) (L' := [(8, .int ((st.1 41 (((31 * x3) + x4) - 1 : Int32).toNatClampNeg) + 2)), (5, .int ((st.1 41 ((31 * (x3 - 1)) + x4 : Int32).toNatClampNeg) + 2)), (7, .int (st.1 40 (((30 * x2) + x4) - 1 : Int32).toNatClampNeg)), (6, .int (st.1 40 (((30 * x1) + x3) - 1 : Int32).toNatClampNeg)), (0, .ref 7), (1, .int x1), (2, .int x2), (3, .int x3), (4, .int x4)]) rfl ?_
                refine X_iload C dX7_changesOf_173 (j := 0) rfl ?_
                refine X_iload C dX7_changesOf_175 (j := 1) rfl ?_
                refine X_icmp_ge C dX7_changesOf_177 (tgt := 185) (by decide) (fun c => ?_) (fun c => ?_)
                · replace h := h.1 c
                  refine X_iload C dX7_changesOf_185 (j := 1) rfl ?_
                  refine X_istore C dX7_changesOf_187 (by decide) (L' := [(5, .int ((st.1 41 ((31 * (x3 - 1)) + x4 : Int32).toNatClampNeg) + 2)), (8, .int ((st.1 41 (((31 * x3) + x4) - 1 : Int32).toNatClampNeg) + 2)), (7, .int (st.1 40 (((30 * x2) + x4) - 1 : Int32).toNatClampNeg)), (6, .int (st.1 40 (((30 * x1) + x3) - 1 : Int32).toNatClampNeg)), (0, .ref 7), (1, .int x1), (2, .int x2), (3, .int x3), (4, .int x4)]) rfl ?_
                  refine X_aload_n C dX7_changesOf_189 rfl (j := 4) rfl ?_
                  refine X_getR C sh_7 rfl fw_RX7_54 dX7_changesOf_190 ?_
                  refine X_bipush C (v := 31) (by decide) dX7_changesOf_193 ?_
                  refine X_iload_n C dX7_changesOf_195 rfl (j := 7) rfl ?_
                  refine X_imul C dX7_changesOf_196 ?_
                  refine X_iload C dX7_changesOf_197 (j := 8) rfl ?_
                  refine X_iadd C dX7_changesOf_199 ?_
                  refine X_iload C dX7_changesOf_200 (j := 0) rfl ?_
                  obtain ⟨g26, h⟩ := h
                  refine X_iast C sh_41 g26 dX7_changesOf_202 ?_
                  refine X_iinc C dX7_changesOf_203 (j := 8) rfl (v := x4 + 1) rfl (by decide) (L' := [(4, .int (x4 + 1)), (5, .int ((st.1 41 ((31 * (x3 - 1)) + x4 : Int32).toNatClampNeg) + 2)), (8, .int ((st.1 41 (((31 * x3) + x4) - 1 : Int32).toNatClampNeg) + 2)), (7, .int (st.1 40 (((30 * x2) + x4) - 1 : Int32).toNatClampNeg)), (6, .int (st.1 40 (((30 * x1) + x3) - 1 : Int32).toNatClampNeg)), (0, .ref 7), (1, .int x1), (2, .int x2), (3, .int x3)]) rfl ?_
                  refine X_goto C dX7_changesOf_206 (tgt := 15) (by decide) ?_
                  refine X_loc [5, 6, 7, 8, 0] rfl ?_
                  exact h
                · replace h := h.2 c
                  refine X_iload C dX7_changesOf_180 (j := 0) rfl ?_
                  refine X_goto C dX7_changesOf_182 (tgt := 187) (by decide) ?_
                  refine X_istore C dX7_changesOf_187 (by decide) (L' := [(5, .int ((st.1 41 (((31 * x3) + x4) - 1 : Int32).toNatClampNeg) + 2)), (8, .int ((st.1 41 (((31 * x3) + x4) - 1 : Int32).toNatClampNeg) + 2)), (7, .int (st.1 40 (((30 * x2) + x4) - 1 : Int32).toNatClampNeg)), (6, .int (st.1 40 (((30 * x1) + x3) - 1 : Int32).toNatClampNeg)), (0, .ref 7), (1, .int x1), (2, .int x2), (3, .int x3), (4, .int x4)]) rfl ?_
                  refine X_aload_n C dX7_changesOf_189 rfl (j := 4) rfl ?_
                  refine X_getR C sh_7 rfl fw_RX7_54 dX7_changesOf_190 ?_
                  refine X_bipush C (v := 31) (by decide) dX7_changesOf_193 ?_
                  refine X_iload_n C dX7_changesOf_195 rfl (j := 7) rfl ?_
                  refine X_imul C dX7_changesOf_196 ?_
                  refine X_iload C dX7_changesOf_197 (j := 8) rfl ?_
                  refine X_iadd C dX7_changesOf_199 ?_
                  refine X_iload C dX7_changesOf_200 (j := 0) rfl ?_
                  obtain ⟨g27, h⟩ := h
                  refine X_iast C sh_41 g27 dX7_changesOf_202 ?_
                  refine X_iinc C dX7_changesOf_203 (j := 8) rfl (v := x4 + 1) rfl (by decide) (L' := [(4, .int (x4 + 1)), (5, .int ((st.1 41 (((31 * x3) + x4) - 1 : Int32).toNatClampNeg) + 2)), (8, .int ((st.1 41 (((31 * x3) + x4) - 1 : Int32).toNatClampNeg) + 2)), (7, .int (st.1 40 (((30 * x2) + x4) - 1 : Int32).toNatClampNeg)), (6, .int (st.1 40 (((30 * x1) + x3) - 1 : Int32).toNatClampNeg)), (0, .ref 7), (1, .int x1), (2, .int x2), (3, .int x3)]) rfl ?_
                  refine X_goto C dX7_changesOf_206 (tgt := 15) (by decide) ?_
                  refine X_loc [5, 6, 7, 8, 0] rfl ?_
                  exact h
            · replace h := h.2 c
              refine X_iconst C (v := 0) (by decide) dX7_changesOf_109 ?_
              refine X_goto C dX7_changesOf_110 (tgt := 114) (by decide) ?_
              refine X_iadd C dX7_changesOf_114 ?_
              refine X_istore C dX7_changesOf_115 (by decide) (L' := [(8, .int ((st.1 41 (((31 * (x3 - 1)) + x4) - 1 : Int32).toNatClampNeg) + 0)), (7, .int (st.1 40 (((30 * x2) + x4) - 1 : Int32).toNatClampNeg)), (6, .int (st.1 40 (((30 * x1) + x3) - 1 : Int32).toNatClampNeg)), (5, .int (2 * (x3 + x4))), (0, .ref 7), (1, .int x1), (2, .int x2), (3, .int x3), (4, .int x4)]) rfl ?_
              refine X_iload C dX7_changesOf_117 (j := 0) rfl ?_
              refine X_istore C dX7_changesOf_119 (by decide) (L' := [(5, .int ((st.1 41 (((31 * (x3 - 1)) + x4) - 1 : Int32).toNatClampNeg) + 0)), (8, .int ((st.1 41 (((31 * (x3 - 1)) + x4) - 1 : Int32).toNatClampNeg) + 0)), (7, .int (st.1 40 (((30 * x2) + x4) - 1 : Int32).toNatClampNeg)), (6, .int (st.1 40 (((30 * x1) + x3) - 1 : Int32).toNatClampNeg)), (0, .ref 7), (1, .int x1), (2, .int x2), (3, .int x3), (4, .int x4)]) rfl ?_
              refine X_aload_n C dX7_changesOf_121 rfl (j := 4) rfl ?_
              refine X_getR C sh_7 rfl fw_RX7_54 dX7_changesOf_122 ?_
              refine X_bipush C (v := 31) (by decide) dX7_changesOf_125 ?_
              refine X_iload_n C dX7_changesOf_127 rfl (j := 7) rfl ?_
              refine X_iconst C (v := 1) (by decide) dX7_changesOf_128 ?_
              refine X_isub C dX7_changesOf_129 ?_
              refine X_imul C dX7_changesOf_130 ?_
              refine X_iload C dX7_changesOf_131 (j := 8) rfl ?_
              refine X_iadd C dX7_changesOf_133 ?_
              obtain ⟨g28, h⟩ := h
              refine X_iald C sh_41 g28 dX7_changesOf_134 ?_
              refine X_iconst C (v := 2) (by decide) dX7_changesOf_135 ?_
              refine X_iadd C dX7_changesOf_136 ?_
              refine X_istore C dX7_changesOf_137 (by decide) (L' := [(8, .int ((st.1 41 ((31 * (x3 - 1)) + x4 : Int32).toNatClampNeg) + 2)), (5, .int ((st.1 41 (((31 * (x3 - 1)) + x4) - 1 : Int32).toNatClampNeg) + 0)), (7, .int (st.1 40 (((30 * x2) + x4) - 1 : Int32).toNatClampNeg)), (6, .int (st.1 40 (((30 * x1) + x3) - 1 : Int32).toNatClampNeg)), (0, .ref 7), (1, .int x1), (2, .int x2), (3, .int x3), (4, .int x4)]) rfl ?_
              refine X_iload C dX7_changesOf_139 (j := 0) rfl ?_
              refine X_iload C dX7_changesOf_141 (j := 1) rfl ?_
              refine X_icmp_ge C dX7_changesOf_143 (tgt := 151) (by decide) (fun c => ?_) (fun c => ?_)
              · replace h := h.1 c
                refine X_iload C dX7_changesOf_151 (j := 1) rfl ?_
                refine X_istore C dX7_changesOf_153 (by decide) (L' := [(5, .int ((st.1 41 (((31 * (x3 - 1)) + x4) - 1 : Int32).toNatClampNeg) + 0)), (8, .int ((st.1 41 ((31 * (x3 - 1)) + x4 : Int32).toNatClampNeg) + 2)), (7, .int (st.1 40 (((30 * x2) + x4) - 1 : Int32).toNatClampNeg)), (6, .int (st.1 40 (((30 * x1) + x3) - 1 : Int32).toNatClampNeg)), (0, .ref 7), (1, .int x1), (2, .int x2), (3, .int x3), (4, .int x4)]) rfl ?_
                refine X_aload_n C dX7_changesOf_155 rfl (j := 4) rfl ?_
                refine X_getR C sh_7 rfl fw_RX7_54 dX7_changesOf_156 ?_
                refine X_bipush C (v := 31) (by decide) dX7_changesOf_159 ?_
                refine X_iload_n C dX7_changesOf_161 rfl (j := 7) rfl ?_
                refine X_imul C dX7_changesOf_162 ?_
                refine X_iload C dX7_changesOf_163 (j := 8) rfl ?_
                refine X_iadd C dX7_changesOf_165 ?_
                refine X_iconst C (v := 1) (by decide) dX7_changesOf_166 ?_
                refine X_isub C dX7_changesOf_167 ?_
                obtain ⟨g29, h⟩ := h
                refine X_iald C sh_41 g29 dX7_changesOf_168 ?_
                refine X_iconst C (v := 2) (by decide) dX7_changesOf_169 ?_
                refine X_iadd C dX7_changesOf_170 ?_
                refine X_istore C dX7_changesOf_171 (by decide) (L' := [(8, .int ((st.1 41 (((31 * x3) + x4) - 1 : Int32).toNatClampNeg) + 2)), (5, .int ((st.1 41 (((31 * (x3 - 1)) + x4) - 1 : Int32).toNatClampNeg) + 0)), (7, .int (st.1 40 (((30 * x2) + x4) - 1 : Int32).toNatClampNeg)), (6, .int (st.1 40 (((30 * x1) + x3) - 1 : Int32).toNatClampNeg)), (0, .ref 7), (1, .int x1), (2, .int x2), (3, .int x3), (4, .int x4)]) rfl ?_
                refine X_iload C dX7_changesOf_173 (j := 0) rfl ?_
                refine X_iload C dX7_changesOf_175 (j := 1) rfl ?_
                refine X_icmp_ge C dX7_changesOf_177 (tgt := 185) (by decide) (fun c => ?_) (fun c => ?_)
                · replace h := h.1 c
                  refine X_iload C dX7_changesOf_185 (j := 1) rfl ?_
                  refine X_istore C dX7_changesOf_187 (by decide) (L' := [(5, .int ((st.1 41 (((31 * (x3 - 1)) + x4) - 1 : Int32).toNatClampNeg) + 0)), (8, .int ((st.1 41 (((31 * x3) + x4) - 1 : Int32).toNatClampNeg) + 2)), (7, .int (st.1 40 (((30 * x2) + x4) - 1 : Int32).toNatClampNeg)), (6, .int (st.1 40 (((30 * x1) + x3) - 1 : Int32).toNatClampNeg)), (0, .ref 7), (1, .int x1), (2, .int x2), (3, .int x3), (4, .int x4)]) rfl ?_
                  refine X_aload_n C dX7_changesOf_189 rfl (j := 4) rfl ?_
                  refine X_getR C sh_7 rfl fw_RX7_54 dX7_changesOf_190 ?_
                  refine X_bipush C (v := 31) (by decide) dX7_changesOf_193 ?_
                  refine X_iload_n C dX7_changesOf_195 rfl (j := 7) rfl ?_
                  refine X_imul C dX7_changesOf_196 ?_
                  refine X_iload C dX7_changesOf_197 (j := 8) rfl ?_
                  refine X_iadd C dX7_changesOf_199 ?_
                  refine X_iload C dX7_changesOf_200 (j := 0) rfl ?_
                  obtain ⟨g30, h⟩ := h
                  refine X_iast C sh_41 g30 dX7_changesOf_202 ?_
                  refine X_iinc C dX7_changesOf_203 (j := 8) rfl (v := x4 + 1) rfl (by decide) (L' := [(4, .int (x4 + 1)), (5, .int ((st.1 41 (((31 * (x3 - 1)) + x4) - 1 : Int32).toNatClampNeg) + 0)), (8, .int ((st.1 41 (((31 * x3) + x4) - 1 : Int32).toNatClampNeg) + 2)), (7, .int (st.1 40 (((30 * x2) + x4) - 1 : Int32).toNatClampNeg)), (6, .int (st.1 40 (((30 * x1) + x3) - 1 : Int32).toNatClampNeg)), (0, .ref 7), (1, .int x1), (2, .int x2), (3, .int x3)]) rfl ?_
                  refine X_goto C dX7_changesOf_206 (tgt := 15) (by decide) ?_
                  refine X_loc [5, 6, 7, 8, 0] rfl ?_
                  exact h
                · replace h := h.2 c
                  refine X_iload C dX7_changesOf_180 (j := 0) rfl ?_
                  refine X_goto C dX7_changesOf_182 (tgt := 187) (by decide) ?_
                  refine X_istore C dX7_changesOf_187 (by decide) (L' := [(5, .int ((st.1 41 (((31 * x3) + x4) - 1 : Int32).toNatClampNeg) + 2)), (8, .int ((st.1 41 (((31 * x3) + x4) - 1 : Int32).toNatClampNeg) + 2)), (7, .int (st.1 40 (((30 * x2) + x4) - 1 : Int32).toNatClampNeg)), (6, .int (st.1 40 (((30 * x1) + x3) - 1 : Int32).toNatClampNeg)), (0, .ref 7), (1, .int x1), (2, .int x2), (3, .int x3), (4, .int x4)]) rfl ?_
                  refine X_aload_n C dX7_changesOf_189 rfl (j := 4) rfl ?_
                  refine X_getR C sh_7 rfl fw_RX7_54 dX7_changesOf_190 ?_
                  refine X_bipush C (v := 31) (by decide) dX7_changesOf_193 ?_
                  refine X_iload_n C dX7_changesOf_195 rfl (j := 7) rfl ?_
                  refine X_imul C dX7_changesOf_196 ?_
                  refine X_iload C dX7_changesOf_197 (j := 8) rfl ?_
                  refine X_iadd C dX7_changesOf_199 ?_
                  refine X_iload C dX7_changesOf_200 (j := 0) rfl ?_
                  obtain ⟨g31, h⟩ := h
                  refine X_iast C sh_41 g31 dX7_changesOf_202 ?_
                  refine X_iinc C dX7_changesOf_203 (j := 8) rfl (v := x4 + 1) rfl (by decide) (L' := [(4, .int (x4 + 1)), (5, .int ((st.1 41 (((31 * x3) + x4) - 1 : Int32).toNatClampNeg) + 2)), (8, .int ((st.1 41 (((31 * x3) + x4) - 1 : Int32).toNatClampNeg) + 2)), (7, .int (st.1 40 (((30 * x2) + x4) - 1 : Int32).toNatClampNeg)), (6, .int (st.1 40 (((30 * x1) + x3) - 1 : Int32).toNatClampNeg)), (0, .ref 7), (1, .int x1), (2, .int x2), (3, .int x3)]) rfl ?_
                  refine X_goto C dX7_changesOf_206 (tgt := 15) (by decide) ?_
                  refine X_loc [5, 6, 7, 8, 0] rfl ?_
                  exact h
              · replace h := h.2 c
                refine X_iload C dX7_changesOf_146 (j := 0) rfl ?_
                refine X_goto C dX7_changesOf_148 (tgt := 153) (by decide) ?_
                refine X_istore C dX7_changesOf_153 (by decide) (L' := [(5, .int ((st.1 41 ((31 * (x3 - 1)) + x4 : Int32).toNatClampNeg) + 2)), (8, .int ((st.1 41 ((31 * (x3 - 1)) + x4 : Int32).toNatClampNeg) + 2)), (7, .int (st.1 40 (((30 * x2) + x4) - 1 : Int32).toNatClampNeg)), (6, .int (st.1 40 (((30 * x1) + x3) - 1 : Int32).toNatClampNeg)), (0, .ref 7), (1, .int x1), (2, .int x2), (3, .int x3), (4, .int x4)]) rfl ?_
                refine X_aload_n C dX7_changesOf_155 rfl (j := 4) rfl ?_
                refine X_getR C sh_7 rfl fw_RX7_54 dX7_changesOf_156 ?_
                refine X_bipush C (v := 31) (by decide) dX7_changesOf_159 ?_
                refine X_iload_n C dX7_changesOf_161 rfl (j := 7) rfl ?_
                refine X_imul C dX7_changesOf_162 ?_
                refine X_iload C dX7_changesOf_163 (j := 8) rfl ?_
                refine X_iadd C dX7_changesOf_165 ?_
                refine X_iconst C (v := 1) (by decide) dX7_changesOf_166 ?_
                refine X_isub C dX7_changesOf_167 ?_
                obtain ⟨g32, h⟩ := h
                refine X_iald C sh_41 g32 dX7_changesOf_168 ?_
                refine X_iconst C (v := 2) (by decide) dX7_changesOf_169 ?_
                refine X_iadd C dX7_changesOf_170 ?_
                refine X_istore C dX7_changesOf_171 (by decide) (L' := [(8, .int ((st.1 41 (((31 * x3) + x4) - 1 : Int32).toNatClampNeg) + 2)), (5, .int ((st.1 41 ((31 * (x3 - 1)) + x4 : Int32).toNatClampNeg) + 2)), (7, .int (st.1 40 (((30 * x2) + x4) - 1 : Int32).toNatClampNeg)), (6, .int (st.1 40 (((30 * x1) + x3) - 1 : Int32).toNatClampNeg)), (0, .ref 7), (1, .int x1), (2, .int x2), (3, .int x3), (4, .int x4)]) rfl ?_
                refine X_iload C dX7_changesOf_173 (j := 0) rfl ?_
                refine X_iload C dX7_changesOf_175 (j := 1) rfl ?_
                refine X_icmp_ge C dX7_changesOf_177 (tgt := 185) (by decide) (fun c => ?_) (fun c => ?_)
                · replace h := h.1 c
                  refine X_iload C dX7_changesOf_185 (j := 1) rfl ?_
                  refine X_istore C dX7_changesOf_187 (by decide) (L' := [(5, .int ((st.1 41 ((31 * (x3 - 1)) + x4 : Int32).toNatClampNeg) + 2)), (8, .int ((st.1 41 (((31 * x3) + x4) - 1 : Int32).toNatClampNeg) + 2)), (7, .int (st.1 40 (((30 * x2) + x4) - 1 : Int32).toNatClampNeg)), (6, .int (st.1 40 (((30 * x1) + x3) - 1 : Int32).toNatClampNeg)), (0, .ref 7), (1, .int x1), (2, .int x2), (3, .int x3), (4, .int x4)]) rfl ?_
                  refine X_aload_n C dX7_changesOf_189 rfl (j := 4) rfl ?_
                  refine X_getR C sh_7 rfl fw_RX7_54 dX7_changesOf_190 ?_
                  refine X_bipush C (v := 31) (by decide) dX7_changesOf_193 ?_
                  refine X_iload_n C dX7_changesOf_195 rfl (j := 7) rfl ?_
                  refine X_imul C dX7_changesOf_196 ?_
                  refine X_iload C dX7_changesOf_197 (j := 8) rfl ?_
                  refine X_iadd C dX7_changesOf_199 ?_
                  refine X_iload C dX7_changesOf_200 (j := 0) rfl ?_
                  obtain ⟨g33, h⟩ := h
                  refine X_iast C sh_41 g33 dX7_changesOf_202 ?_
                  refine X_iinc C dX7_changesOf_203 (j := 8) rfl (v := x4 + 1) rfl (by decide) (L' := [(4, .int (x4 + 1)), (5, .int ((st.1 41 ((31 * (x3 - 1)) + x4 : Int32).toNatClampNeg) + 2)), (8, .int ((st.1 41 (((31 * x3) + x4) - 1 : Int32).toNatClampNeg) + 2)), (7, .int (st.1 40 (((30 * x2) + x4) - 1 : Int32).toNatClampNeg)), (6, .int (st.1 40 (((30 * x1) + x3) - 1 : Int32).toNatClampNeg)), (0, .ref 7), (1, .int x1), (2, .int x2), (3, .int x3)]) rfl ?_
                  refine X_goto C dX7_changesOf_206 (tgt := 15) (by decide) ?_
                  refine X_loc [5, 6, 7, 8, 0] rfl ?_
                  exact h
                · replace h := h.2 c
                  refine X_iload C dX7_changesOf_180 (j := 0) rfl ?_
                  refine X_goto C dX7_changesOf_182 (tgt := 187) (by decide) ?_
                  refine X_istore C dX7_changesOf_187 (by decide) (L' := [(5, .int ((st.1 41 (((31 * x3) + x4) - 1 : Int32).toNatClampNeg) + 2)), (8, .int ((st.1 41 (((31 * x3) + x4) - 1 : Int32).toNatClampNeg) + 2)), (7, .int (st.1 40 (((30 * x2) + x4) - 1 : Int32).toNatClampNeg)), (6, .int (st.1 40 (((30 * x1) + x3) - 1 : Int32).toNatClampNeg)), (0, .ref 7), (1, .int x1), (2, .int x2), (3, .int x3), (4, .int x4)]) rfl ?_
                  refine X_aload_n C dX7_changesOf_189 rfl (j := 4) rfl ?_
                  refine X_getR C sh_7 rfl fw_RX7_54 dX7_changesOf_190 ?_
                  refine X_bipush C (v := 31) (by decide) dX7_changesOf_193 ?_
                  refine X_iload_n C dX7_changesOf_195 rfl (j := 7) rfl ?_
                  refine X_imul C dX7_changesOf_196 ?_
                  refine X_iload C dX7_changesOf_197 (j := 8) rfl ?_
                  refine X_iadd C dX7_changesOf_199 ?_
                  refine X_iload C dX7_changesOf_200 (j := 0) rfl ?_
                  obtain ⟨g34, h⟩ := h
                  refine X_iast C sh_41 g34 dX7_changesOf_202 ?_
                  refine X_iinc C dX7_changesOf_203 (j := 8) rfl (v := x4 + 1) rfl (by decide) (L' := [(4, .int (x4 + 1)), (5, .int ((st.1 41 (((31 * x3) + x4) - 1 : Int32).toNatClampNeg) + 2)), (8, .int ((st.1 41 (((31 * x3) + x4) - 1 : Int32).toNatClampNeg) + 2)), (7, .int (st.1 40 (((30 * x2) + x4) - 1 : Int32).toNatClampNeg)), (6, .int (st.1 40 (((30 * x1) + x3) - 1 : Int32).toNatClampNeg)), (0, .ref 7), (1, .int x1), (2, .int x2), (3, .int x3)]) rfl ?_
                  refine X_goto C dX7_changesOf_206 (tgt := 15) (by decide) ?_
                  refine X_loc [5, 6, 7, 8, 0] rfl ?_
                  exact h
set_option maxHeartbeats 4000000 in
set_option maxRecDepth 100000 in
theorem eX7_changesOf {d : Nat} {Q : Option Value → xSt → Prop} (a1 : Int32) (a2 : Int32) (st : xSt) (h : ∀ κ : xK, Cx κ M_X7_changesOf (d) → xR κ Q → X κ 2 [(0, .ref 7), (1, .int a1), (2, .int a2), (3, .int 0)] [] st) : Ct (d) M_X7_changesOf [.ref 7, .int a1, .int a2] st Q := by
  refine Ct_of (by decide +kernel) (Nat.le_of_ble_eq_true rfl) (fun κ C Z => ?_)
  replace h := h κ C Z
  show X κ 0 [(0, .ref 7), (1, .int a1), (2, .int a2)] [] st
  refine X_iconst C (v := 0) (by decide) dX7_changesOf_0 ?_
  refine X_istore_n C dX7_changesOf_1 rfl (by decide) (L' := [(3, .int 0), (0, .ref 7), (1, .int a1), (2, .int a2)]) rfl ?_
  refine X_loc [1, 2, 3, 0] rfl ?_
  exact h
set_option maxHeartbeats 4000000 in
set_option maxRecDepth 100000 in
theorem eX7_changes {d : Nat} {Q : Option Value → xSt → Prop} (a1 : Int32) (a2 : Int32) (st : xSt) (h : Ct d M_X7_isList [.ref 7, .int a1] st (Qi fun v2 s1 => ((v2 = 0 → Q (some (.int ((-2)))) s1) ∧ (¬ v2 = 0 → Ct d M_X7_isList [.ref 7, .int a2] s1 (Qi fun v4 s3 => ((v4 = 0 → Q (some (.int ((-2)))) s3) ∧ (¬ v4 = 0 → Ct d M_X7_changesOf [.ref 7, .int a1, .int a2] s3 (Qi fun v6 s5 => Q (some (.int v6)) s5)))))))) : Ct (d + 1) M_X7_changes [.ref 7, .int a1, .int a2] st Q := by
  refine Ct_of (by decide +kernel) (Nat.le_of_ble_eq_true rfl) (fun κ C Z => ?_)
  show X κ 0 [(0, .ref 7), (1, .int a1), (2, .int a2)] [] st
  refine X_aload_n C dX7_changes_0 rfl (j := 0) rfl ?_
  refine X_iload_n C dX7_changes_1 rfl (j := 1) rfl ?_
  refine X_callV C dX7_changes_2 pw_RX7_183 (b := 7) (as := [.int a1]) (S := []) sh_7 rfl rfl rfl (Nat.le_of_ble_eq_true rfl) (Ct_mono h ?_)
  rintro _ s1 ⟨v2, rfl, h⟩
  show X κ 5 [(0, .ref 7), (1, .int a1), (2, .int a2)] [.int v2] s1
  refine X_if_eq C dX7_changes_5 (tgt := 25) (by decide) (fun c => ?_) (fun c => ?_)
  · replace h := h.1 c
    refine X_bipush C (v := (-2)) (by decide) dX7_changes_25 ?_
    exact X_iret C Z rfl dX7_changes_27 h
  · replace h := h.2 c
    refine X_aload_n C dX7_changes_8 rfl (j := 0) rfl ?_
    refine X_iload_n C dX7_changes_9 rfl (j := 2) rfl ?_
    refine X_callV C dX7_changes_10 pw_RX7_183 (b := 7) (as := [.int a2]) (S := []) sh_7 rfl rfl rfl (Nat.le_of_ble_eq_true rfl) (Ct_mono h ?_)
    rintro _ s3 ⟨v4, rfl, h⟩
    show X κ 13 [(0, .ref 7), (1, .int a1), (2, .int a2)] [.int v4] s3
    refine X_if_eq C dX7_changes_13 (tgt := 25) (by decide) (fun c => ?_) (fun c => ?_)
    · replace h := h.1 c
      refine X_bipush C (v := (-2)) (by decide) dX7_changes_25 ?_
      exact X_iret C Z rfl dX7_changes_27 h
    · replace h := h.2 c
      refine X_aload_n C dX7_changes_16 rfl (j := 0) rfl ?_
      refine X_iload_n C dX7_changes_17 rfl (j := 1) rfl ?_
      refine X_iload_n C dX7_changes_18 rfl (j := 2) rfl ?_
      refine X_callV C dX7_changes_19 pw_RX7_192 (b := 7) (as := [.int a1, .int a2]) (S := []) sh_7 rfl rfl rfl (Nat.le_of_ble_eq_true rfl) (Ct_mono h ?_)
      rintro _ s5 ⟨v6, rfl, h⟩
      show X κ 22 [(0, .ref 7), (1, .int a1), (2, .int a2)] [.int v6] s5
      refine X_goto C dX7_changes_22 (tgt := 27) (by decide) ?_
      exact X_iret C Z rfl dX7_changes_27 h
set_option maxHeartbeats 4000000 in
set_option maxRecDepth 100000 in
theorem bX7_motherOf_7 {κ : xK} {d : Nat} {Q : Option Value → xSt → Prop} (C : Cx κ M_X7_motherOf (d + 1)) (Z : xR κ Q) (x1 : Int32) (x2 : Int32) (x3 : Int32) (x4 : Int32) (st : xSt) (h : (((st.1 7 14) ≤ x4 → Q (some (.int x2)) st) ∧ (¬ (st.1 7 14) ≤ x4 → vp_in x4 8 ∧ vp_in x1 8 ∧ (((st.1 39 (x1 : Int32).toNatClampNeg) ≤ (st.1 39 (x4 : Int32).toNatClampNeg) → X κ 7 [(0, .ref 7), (1, .int x1), (2, .int x2), (3, .int x3), (4, .int (x4 + 1))] [] st) ∧ (¬ (st.1 39 (x1 : Int32).toNatClampNeg) ≤ (st.1 39 (x4 : Int32).toNatClampNeg) → Ct d M_X7_changesOf [.ref 7, .int x4, .int x1] st (Qi fun v4 s3 => ((x2 = ((-1)) → X κ 7 [(0, .ref 7), (1, .int x1), (2, .int x4), (3, .int v4), (4, .int (x4 + 1))] [] s3) ∧ (¬ x2 = ((-1)) → ((v4 < x3 → X κ 7 [(0, .ref 7), (1, .int x1), (2, .int x4), (3, .int v4), (4, .int (x4 + 1))] [] s3) ∧ (¬ v4 < x3 → ((¬ v4 = x3 → X κ 7 [(0, .ref 7), (1, .int x1), (2, .int x2), (3, .int x3), (4, .int (x4 + 1))] [] s3) ∧ (v4 = x3 → vp_in x4 8 ∧ vp_in x2 8 ∧ (((s3.1 39 (x4 : Int32).toNatClampNeg) ≤ (s3.1 39 (x2 : Int32).toNatClampNeg) → X κ 7 [(0, .ref 7), (1, .int x1), (2, .int x2), (3, .int x3), (4, .int (x4 + 1))] [] s3) ∧ (¬ (s3.1 39 (x4 : Int32).toNatClampNeg) ≤ (s3.1 39 (x2 : Int32).toNatClampNeg) → X κ 7 [(0, .ref 7), (1, .int x1), (2, .int x4), (3, .int v4), (4, .int (x4 + 1))] [] s3)))))))))))))) : X κ 7 [(0, .ref 7), (1, .int x1), (2, .int x2), (3, .int x3), (4, .int x4)] [] st := by
  refine X_iload C dX7_motherOf_7 (j := 4) rfl ?_
  refine X_aload_n C dX7_motherOf_9 rfl (j := 0) rfl ?_
  refine X_getI C sh_7 rfl fw_RX7_180 dX7_motherOf_10 ?_
  refine X_icmp_ge C dX7_motherOf_13 (tgt := 86) (by decide) (fun c => ?_) (fun c => ?_)
  · replace h := h.1 c
    refine X_iload_n C dX7_motherOf_86 rfl (j := 2) rfl ?_
    exact X_iret C Z rfl dX7_motherOf_87 h
  · replace h := h.2 c
    refine X_aload_n C dX7_motherOf_16 rfl (j := 0) rfl ?_
    refine X_getR C sh_7 rfl fw_RX7_48 dX7_motherOf_17 ?_
    refine X_iload C dX7_motherOf_20 (j := 4) rfl ?_
    obtain ⟨g1, h⟩ := h
    refine X_iald C sh_39 g1 dX7_motherOf_22 ?_
    refine X_aload_n C dX7_motherOf_23 rfl (j := 0) rfl ?_
    refine X_getR C sh_7 rfl fw_RX7_48 dX7_motherOf_24 ?_
    refine X_iload_n C dX7_motherOf_27 rfl (j := 1) rfl ?_
    obtain ⟨g2, h⟩ := h
    refine X_iald C sh_39 g2 dX7_motherOf_28 ?_
    refine X_icmp_ge C dX7_motherOf_29 (tgt := 80) (by decide) (fun c => ?_) (fun c => ?_)
    · replace h := h.1 c
      refine X_iinc C dX7_motherOf_80 (j := 4) rfl (v := x4 + 1) rfl (by decide) (L' := [(4, .int (x4 + 1)), (0, .ref 7), (1, .int x1), (2, .int x2), (3, .int x3)]) rfl ?_
      refine X_goto C dX7_motherOf_83 (tgt := 7) (by decide) ?_
      refine X_loc [1, 2, 3, 4, 0] rfl ?_
      exact h
    · replace h := h.2 c
      refine X_aload_n C dX7_motherOf_32 rfl (j := 0) rfl ?_
      refine X_iload C dX7_motherOf_33 (j := 4) rfl ?_
      refine X_iload_n C dX7_motherOf_35 rfl (j := 1) rfl ?_
      refine X_callV C dX7_motherOf_36 pw_RX7_192 (b := 7) (as := [.int x4, .int x1]) (S := []) sh_7 rfl rfl rfl (Nat.le_of_ble_eq_true rfl) (Ct_mono h ?_)
      rintro _ s3 ⟨v4, rfl, h⟩
      show X κ 39 [(0, .ref 7), (1, .int x1), (2, .int x2), (3, .int x3), (4, .int x4)] [.int v4] s3
      refine X_istore C dX7_motherOf_39 (by decide) (L' := [(5, .int v4), (0, .ref 7), (1, .int x1), (2, .int x2), (3, .int x3), (4, .int x4)]) rfl ?_
      refine X_iload_n C dX7_motherOf_41 rfl (j := 3) rfl ?_
      refine X_iconst C (v := (-1)) (by decide) dX7_motherOf_42 ?_
      refine X_icmp_eq C dX7_motherOf_43 (tgt := 74) (by decide) (fun c => ?_) (fun c => ?_)
      · replace h := h.1 c
        refine X_iload C dX7_motherOf_74 (j := 5) rfl ?_
        refine X_istore_n C dX7_motherOf_76 rfl (by decide) (L' := [(2, .int x4), (5, .int v4), (0, .ref 7), (1, .int x1), (3, .int x3), (4, .int x4)]) rfl ?_
        refine X_iload C dX7_motherOf_77 (j := 1) rfl ?_
        refine X_istore_n C dX7_motherOf_79 rfl (by decide) (L' := [(3, .int v4), (2, .int x4), (5, .int v4), (0, .ref 7), (1, .int x1), (4, .int x4)]) rfl ?_
        refine X_iinc C dX7_motherOf_80 (j := 5) rfl (v := x4 + 1) rfl (by decide) (L' := [(4, .int (x4 + 1)), (3, .int v4), (2, .int x4), (5, .int v4), (0, .ref 7), (1, .int x1)]) rfl ?_
        refine X_goto C dX7_motherOf_83 (tgt := 7) (by decide) ?_
        refine X_loc [4, 5, 2, 1, 0] rfl ?_
        exact h
      · replace h := h.2 c
        refine X_iload C dX7_motherOf_46 (j := 0) rfl ?_
        refine X_iload_n C dX7_motherOf_48 rfl (j := 4) rfl ?_
        refine X_icmp_lt C dX7_motherOf_49 (tgt := 74) (by decide) (fun c => ?_) (fun c => ?_)
        · replace h := h.1 c
          refine X_iload C dX7_motherOf_74 (j := 5) rfl ?_
          refine X_istore_n C dX7_motherOf_76 rfl (by decide) (L' := [(2, .int x4), (5, .int v4), (0, .ref 7), (1, .int x1), (3, .int x3), (4, .int x4)]) rfl ?_
          refine X_iload C dX7_motherOf_77 (j := 1) rfl ?_
          refine X_istore_n C dX7_motherOf_79 rfl (by decide) (L' := [(3, .int v4), (2, .int x4), (5, .int v4), (0, .ref 7), (1, .int x1), (4, .int x4)]) rfl ?_
          refine X_iinc C dX7_motherOf_80 (j := 5) rfl (v := x4 + 1) rfl (by decide) (L' := [(4, .int (x4 + 1)), (3, .int v4), (2, .int x4), (5, .int v4), (0, .ref 7), (1, .int x1)]) rfl ?_
          refine X_goto C dX7_motherOf_83 (tgt := 7) (by decide) ?_
          refine X_loc [4, 5, 2, 1, 0] rfl ?_
          exact h
        · replace h := h.2 c
          refine X_iload C dX7_motherOf_52 (j := 0) rfl ?_
          refine X_iload_n C dX7_motherOf_54 rfl (j := 4) rfl ?_
          refine X_icmp_ne C dX7_motherOf_55 (tgt := 80) (by decide) (fun c => ?_) (fun c => ?_)
          · replace h := h.1 c
            refine X_iinc C dX7_motherOf_80 (j := 5) rfl (v := x4 + 1) rfl (by decide) (L' := [(4, .int (x4 + 1)), (5, .int v4), (0, .ref 7), (1, .int x1), (2, .int x2), (3, .int x3)]) rfl ?_
            refine X_goto C dX7_motherOf_83 (tgt := 7) (by decide) ?_
            refine X_loc [2, 3, 4, 5, 0] rfl ?_
            exact h
          · replace h := h.2 c
            refine X_aload_n C dX7_motherOf_58 rfl (j := 1) rfl ?_
            refine X_getR C sh_7 rfl fw_RX7_48 dX7_motherOf_59 ?_
            refine X_iload C dX7_motherOf_62 (j := 5) rfl ?_
            obtain ⟨g5, h⟩ := h
            refine X_iald C sh_39 g5 dX7_motherOf_64 ?_
            refine X_aload_n C dX7_motherOf_65 rfl (j := 1) rfl ?_
            refine X_getR C sh_7 rfl fw_RX7_48 dX7_motherOf_66 ?_
            refine X_iload_n C dX7_motherOf_69 rfl (j := 3) rfl ?_
            obtain ⟨g6, h⟩ := h
            refine X_iald C sh_39 g6 dX7_motherOf_70 ?_
            refine X_icmp_le C dX7_motherOf_71 (tgt := 80) (by decide) (fun c => ?_) (fun c => ?_)
            · replace h := h.1 c
              refine X_iinc C dX7_motherOf_80 (j := 5) rfl (v := x4 + 1) rfl (by decide) (L' := [(4, .int (x4 + 1)), (5, .int v4), (0, .ref 7), (1, .int x1), (2, .int x2), (3, .int x3)]) rfl ?_
              refine X_goto C dX7_motherOf_83 (tgt := 7) (by decide) ?_
              refine X_loc [2, 3, 4, 5, 0] rfl ?_
              exact h
            · replace h := h.2 c
              refine X_iload C dX7_motherOf_74 (j := 5) rfl ?_
              refine X_istore_n C dX7_motherOf_76 rfl (by decide) (L' := [(2, .int x4), (5, .int v4), (0, .ref 7), (1, .int x1), (3, .int x3), (4, .int x4)]) rfl ?_
              refine X_iload C dX7_motherOf_77 (j := 1) rfl ?_
              refine X_istore_n C dX7_motherOf_79 rfl (by decide) (L' := [(3, .int v4), (2, .int x4), (5, .int v4), (0, .ref 7), (1, .int x1), (4, .int x4)]) rfl ?_
              refine X_iinc C dX7_motherOf_80 (j := 5) rfl (v := x4 + 1) rfl (by decide) (L' := [(4, .int (x4 + 1)), (3, .int v4), (2, .int x4), (5, .int v4), (0, .ref 7), (1, .int x1)]) rfl ?_
              refine X_goto C dX7_motherOf_83 (tgt := 7) (by decide) ?_
              refine X_loc [4, 5, 2, 1, 0] rfl ?_
              exact h
set_option maxHeartbeats 4000000 in
set_option maxRecDepth 100000 in
theorem eX7_motherOf {d : Nat} {Q : Option Value → xSt → Prop} (a1 : Int32) (st : xSt) (h : ∀ κ : xK, Cx κ M_X7_motherOf (d + 1) → xR κ Q → X κ 7 [(0, .ref 7), (1, .int a1), (2, .int ((-1))), (3, .int 0), (4, .int 0)] [] st) : Ct (d + 1) M_X7_motherOf [.ref 7, .int a1] st Q := by
  refine Ct_of (by decide +kernel) (Nat.le_of_ble_eq_true rfl) (fun κ C Z => ?_)
  replace h := h κ C Z
  show X κ 0 [(0, .ref 7), (1, .int a1)] [] st
  refine X_iconst C (v := (-1)) (by decide) dX7_motherOf_0 ?_
  refine X_istore_n C dX7_motherOf_1 rfl (by decide) (L' := [(2, .int ((-1))), (0, .ref 7), (1, .int a1)]) rfl ?_
  refine X_iconst C (v := 0) (by decide) dX7_motherOf_2 ?_
  refine X_istore_n C dX7_motherOf_3 rfl (by decide) (L' := [(3, .int 0), (2, .int ((-1))), (0, .ref 7), (1, .int a1)]) rfl ?_
  refine X_iconst C (v := 0) (by decide) dX7_motherOf_4 ?_
  refine X_istore C dX7_motherOf_5 (by decide) (L' := [(4, .int 0), (3, .int 0), (2, .int ((-1))), (0, .ref 7), (1, .int a1)]) rfl ?_
  refine X_loc [3, 4, 2, 1, 0] rfl ?_
  exact h
set_option maxHeartbeats 4000000 in
set_option maxRecDepth 100000 in
theorem eX7_mother {d : Nat} {Q : Option Value → xSt → Prop} (a1 : Int32) (st : xSt) (h : Ct d M_X7_isList [.ref 7, .int a1] st (Qi fun v2 s1 => ((v2 = 0 → Q (some (.int ((-2)))) s1) ∧ (¬ v2 = 0 → Ct d M_X7_motherOf [.ref 7, .int a1] s1 (Qi fun v4 s3 => Q (some (.int v4)) s3))))) : Ct (d + 1) M_X7_mother [.ref 7, .int a1] st Q := by
  refine Ct_of (by decide +kernel) (Nat.le_of_ble_eq_true rfl) (fun κ C Z => ?_)
  show X κ 0 [(0, .ref 7), (1, .int a1)] [] st
  refine X_aload_n C dX7_mother_0 rfl (j := 0) rfl ?_
  refine X_iload_n C dX7_mother_1 rfl (j := 1) rfl ?_
  refine X_callV C dX7_mother_2 pw_RX7_183 (b := 7) (as := [.int a1]) (S := []) sh_7 rfl rfl rfl (Nat.le_of_ble_eq_true rfl) (Ct_mono h ?_)
  rintro _ s1 ⟨v2, rfl, h⟩
  show X κ 5 [(0, .ref 7), (1, .int a1)] [.int v2] s1
  refine X_if_eq C dX7_mother_5 (tgt := 16) (by decide) (fun c => ?_) (fun c => ?_)
  · replace h := h.1 c
    refine X_bipush C (v := (-2)) (by decide) dX7_mother_16 ?_
    exact X_iret C Z rfl dX7_mother_18 h
  · replace h := h.2 c
    refine X_aload_n C dX7_mother_8 rfl (j := 0) rfl ?_
    refine X_iload_n C dX7_mother_9 rfl (j := 1) rfl ?_
    refine X_callV C dX7_mother_10 pw_RX7_195 (b := 7) (as := [.int a1]) (S := []) sh_7 rfl rfl rfl (Nat.le_of_ble_eq_true rfl) (Ct_mono h ?_)
    rintro _ s3 ⟨v4, rfl, h⟩
    show X κ 13 [(0, .ref 7), (1, .int a1)] [.int v4] s3
    refine X_goto C dX7_mother_13 (tgt := 18) (by decide) ?_
    exact X_iret C Z rfl dX7_mother_18 h
set_option maxHeartbeats 4000000 in
set_option maxRecDepth 100000 in
theorem bX7_strangeTo_6 {κ : xK} {d : Nat} {Q : Option Value → xSt → Prop} (C : Cx κ M_X7_strangeTo (d)) (Z : xR κ Q) (x1 : Int32) (x2 : Int32) (x3 : Int32) (x4 : Int32) (x5 : Int32) (st : xSt) (h : vp_in x1 8 ∧ (((st.1 38 (x1 : Int32).toNatClampNeg) ≤ x5 → Q (some (.int x4)) st) ∧ (¬ (st.1 38 (x1 : Int32).toNatClampNeg) ≤ x5 → vp_in ((30 * x1) + x5) 240 ∧ vp_in ((30 * x2) + x5) 240 ∧ vp_in ((30 * x3) + x5) 240 ∧ (((st.1 40 ((30 * x1) + x5 : Int32).toNatClampNeg) = ((-1)) → X κ 6 [(0, .ref 7), (1, .int x1), (2, .int x2), (3, .int x3), (4, .int (x4 + 0)), (5, .int (x5 + 1))] [] st) ∧ (¬ (st.1 40 ((30 * x1) + x5 : Int32).toNatClampNeg) = ((-1)) → (((st.1 40 ((30 * x2) + x5 : Int32).toNatClampNeg) = ((-1)) → X κ 6 [(0, .ref 7), (1, .int x1), (2, .int x2), (3, .int x3), (4, .int (x4 + 0)), (5, .int (x5 + 1))] [] st) ∧ (¬ (st.1 40 ((30 * x2) + x5 : Int32).toNatClampNeg) = ((-1)) → (((st.1 40 ((30 * x3) + x5 : Int32).toNatClampNeg) = ((-1)) → X κ 6 [(0, .ref 7), (1, .int x1), (2, .int x2), (3, .int x3), (4, .int (x4 + 0)), (5, .int (x5 + 1))] [] st) ∧ (¬ (st.1 40 ((30 * x3) + x5 : Int32).toNatClampNeg) = ((-1)) → (((st.1 40 ((30 * x1) + x5 : Int32).toNatClampNeg) = (st.1 40 ((30 * x2) + x5 : Int32).toNatClampNeg) → X κ 6 [(0, .ref 7), (1, .int x1), (2, .int x2), (3, .int x3), (4, .int (x4 + 0)), (5, .int (x5 + 1))] [] st) ∧ (¬ (st.1 40 ((30 * x1) + x5 : Int32).toNatClampNeg) = (st.1 40 ((30 * x2) + x5 : Int32).toNatClampNeg) → (((st.1 40 ((30 * x1) + x5 : Int32).toNatClampNeg) = (st.1 40 ((30 * x3) + x5 : Int32).toNatClampNeg) → X κ 6 [(0, .ref 7), (1, .int x1), (2, .int x2), (3, .int x3), (4, .int (x4 + 0)), (5, .int (x5 + 1))] [] st) ∧ (¬ (st.1 40 ((30 * x1) + x5 : Int32).toNatClampNeg) = (st.1 40 ((30 * x3) + x5 : Int32).toNatClampNeg) → X κ 6 [(0, .ref 7), (1, .int x1), (2, .int x2), (3, .int x3), (4, .int (x4 + 1)), (5, .int (x5 + 1))] [] st))))))))))))) : X κ 6 [(0, .ref 7), (1, .int x1), (2, .int x2), (3, .int x3), (4, .int x4), (5, .int x5)] [] st := by
  refine X_iload C dX7_strangeTo_6 (j := 5) rfl ?_
  refine X_aload_n C dX7_strangeTo_8 rfl (j := 0) rfl ?_
  refine X_getR C sh_7 rfl fw_RX7_45 dX7_strangeTo_9 ?_
  refine X_iload_n C dX7_strangeTo_12 rfl (j := 1) rfl ?_
  obtain ⟨g1, h⟩ := h
  refine X_iald C sh_38 g1 dX7_strangeTo_13 ?_
  refine X_icmp_ge C dX7_strangeTo_14 (tgt := 107) (by decide) (fun c => ?_) (fun c => ?_)
  · replace h := h.1 c
    refine X_iload C dX7_strangeTo_107 (j := 4) rfl ?_
    exact X_iret C Z rfl dX7_strangeTo_109 h
  · replace h := h.2 c
    refine X_aload_n C dX7_strangeTo_17 rfl (j := 0) rfl ?_
    refine X_getR C sh_7 rfl fw_RX7_51 dX7_strangeTo_18 ?_
    refine X_bipush C (v := 30) (by decide) dX7_strangeTo_21 ?_
    refine X_iload_n C dX7_strangeTo_23 rfl (j := 1) rfl ?_
    refine X_imul C dX7_strangeTo_24 ?_
    refine X_iload C dX7_strangeTo_25 (j := 5) rfl ?_
    refine X_iadd C dX7_strangeTo_27 ?_
    obtain ⟨g2, h⟩ := h
    refine X_iald C sh_40 g2 dX7_strangeTo_28 ?_
    refine X_istore C dX7_strangeTo_29 (by decide) (L' := [(6, .int (st.1 40 ((30 * x1) + x5 : Int32).toNatClampNeg)), (0, .ref 7), (1, .int x1), (2, .int x2), (3, .int x3), (4, .int x4), (5, .int x5)]) rfl ?_
    refine X_aload_n C dX7_strangeTo_31 rfl (j := 1) rfl ?_
    refine X_getR C sh_7 rfl fw_RX7_51 dX7_strangeTo_32 ?_
    refine X_bipush C (v := 30) (by decide) dX7_strangeTo_35 ?_
    refine X_iload_n C dX7_strangeTo_37 rfl (j := 3) rfl ?_
    refine X_imul C dX7_strangeTo_38 ?_
    refine X_iload C dX7_strangeTo_39 (j := 6) rfl ?_
    refine X_iadd C dX7_strangeTo_41 ?_
    obtain ⟨g3, h⟩ := h
    refine X_iald C sh_40 g3 dX7_strangeTo_42 ?_
    refine X_istore C dX7_strangeTo_43 (by decide) (L' := [(7, .int (st.1 40 ((30 * x2) + x5 : Int32).toNatClampNeg)), (6, .int (st.1 40 ((30 * x1) + x5 : Int32).toNatClampNeg)), (0, .ref 7), (1, .int x1), (2, .int x2), (3, .int x3), (4, .int x4), (5, .int x5)]) rfl ?_
    refine X_aload_n C dX7_strangeTo_45 rfl (j := 2) rfl ?_
    refine X_getR C sh_7 rfl fw_RX7_51 dX7_strangeTo_46 ?_
    refine X_bipush C (v := 30) (by decide) dX7_strangeTo_49 ?_
    refine X_iload_n C dX7_strangeTo_51 rfl (j := 5) rfl ?_
    refine X_imul C dX7_strangeTo_52 ?_
    refine X_iload C dX7_strangeTo_53 (j := 7) rfl ?_
    refine X_iadd C dX7_strangeTo_55 ?_
    obtain ⟨g4, h⟩ := h
    refine X_iald C sh_40 g4 dX7_strangeTo_56 ?_
    refine X_istore C dX7_strangeTo_57 (by decide) (L' := [(8, .int (st.1 40 ((30 * x3) + x5 : Int32).toNatClampNeg)), (7, .int (st.1 40 ((30 * x2) + x5 : Int32).toNatClampNeg)), (6, .int (st.1 40 ((30 * x1) + x5 : Int32).toNatClampNeg)), (0, .ref 7), (1, .int x1), (2, .int x2), (3, .int x3), (4, .int x4), (5, .int x5)]) rfl ?_
    refine X_iload C dX7_strangeTo_59 (j := 7) rfl ?_
    refine X_iload C dX7_strangeTo_61 (j := 2) rfl ?_
    refine X_iconst C (v := (-1)) (by decide) dX7_strangeTo_63 ?_
    refine X_icmp_eq C dX7_strangeTo_64 (tgt := 97) (by decide) (fun c => ?_) (fun c => ?_)
    · replace h := h.1 c
      refine X_iconst C (v := 0) (by decide) dX7_strangeTo_97 ?_
      refine X_iadd C dX7_strangeTo_98 ?_
      refine X_istore C dX7_strangeTo_99 (by decide) (L' := [(4, .int (x4 + 0)), (8, .int (st.1 40 ((30 * x3) + x5 : Int32).toNatClampNeg)), (7, .int (st.1 40 ((30 * x2) + x5 : Int32).toNatClampNeg)), (6, .int (st.1 40 ((30 * x1) + x5 : Int32).toNatClampNeg)), (0, .ref 7), (1, .int x1), (2, .int x2), (3, .int x3), (5, .int x5)]) rfl ?_
      refine X_iinc C dX7_strangeTo_101 (j := 8) rfl (v := x5 + 1) rfl (by decide) (L' := [(5, .int (x5 + 1)), (4, .int (x4 + 0)), (8, .int (st.1 40 ((30 * x3) + x5 : Int32).toNatClampNeg)), (7, .int (st.1 40 ((30 * x2) + x5 : Int32).toNatClampNeg)), (6, .int (st.1 40 ((30 * x1) + x5 : Int32).toNatClampNeg)), (0, .ref 7), (1, .int x1), (2, .int x2), (3, .int x3)]) rfl ?_
      refine X_goto C dX7_strangeTo_104 (tgt := 6) (by decide) ?_
      refine X_loc [5, 6, 7, 8, 1, 0] rfl ?_
      exact h
    · replace h := h.2 c
      refine X_iload C dX7_strangeTo_67 (j := 1) rfl ?_
      refine X_iconst C (v := (-1)) (by decide) dX7_strangeTo_69 ?_
      refine X_icmp_eq C dX7_strangeTo_70 (tgt := 97) (by decide) (fun c => ?_) (fun c => ?_)
      · replace h := h.1 c
        refine X_iconst C (v := 0) (by decide) dX7_strangeTo_97 ?_
        refine X_iadd C dX7_strangeTo_98 ?_
        refine X_istore C dX7_strangeTo_99 (by decide) (L' := [(4, .int (x4 + 0)), (8, .int (st.1 40 ((30 * x3) + x5 : Int32).toNatClampNeg)), (7, .int (st.1 40 ((30 * x2) + x5 : Int32).toNatClampNeg)), (6, .int (st.1 40 ((30 * x1) + x5 : Int32).toNatClampNeg)), (0, .ref 7), (1, .int x1), (2, .int x2), (3, .int x3), (5, .int x5)]) rfl ?_
        refine X_iinc C dX7_strangeTo_101 (j := 8) rfl (v := x5 + 1) rfl (by decide) (L' := [(5, .int (x5 + 1)), (4, .int (x4 + 0)), (8, .int (st.1 40 ((30 * x3) + x5 : Int32).toNatClampNeg)), (7, .int (st.1 40 ((30 * x2) + x5 : Int32).toNatClampNeg)), (6, .int (st.1 40 ((30 * x1) + x5 : Int32).toNatClampNeg)), (0, .ref 7), (1, .int x1), (2, .int x2), (3, .int x3)]) rfl ?_
        refine X_goto C dX7_strangeTo_104 (tgt := 6) (by decide) ?_
        refine X_loc [5, 6, 7, 8, 1, 0] rfl ?_
        exact h
      · replace h := h.2 c
        refine X_iload C dX7_strangeTo_73 (j := 0) rfl ?_
        refine X_iconst C (v := (-1)) (by decide) dX7_strangeTo_75 ?_
        refine X_icmp_eq C dX7_strangeTo_76 (tgt := 97) (by decide) (fun c => ?_) (fun c => ?_)
        · replace h := h.1 c
          refine X_iconst C (v := 0) (by decide) dX7_strangeTo_97 ?_
          refine X_iadd C dX7_strangeTo_98 ?_
          refine X_istore C dX7_strangeTo_99 (by decide) (L' := [(4, .int (x4 + 0)), (8, .int (st.1 40 ((30 * x3) + x5 : Int32).toNatClampNeg)), (7, .int (st.1 40 ((30 * x2) + x5 : Int32).toNatClampNeg)), (6, .int (st.1 40 ((30 * x1) + x5 : Int32).toNatClampNeg)), (0, .ref 7), (1, .int x1), (2, .int x2), (3, .int x3), (5, .int x5)]) rfl ?_
          refine X_iinc C dX7_strangeTo_101 (j := 8) rfl (v := x5 + 1) rfl (by decide) (L' := [(5, .int (x5 + 1)), (4, .int (x4 + 0)), (8, .int (st.1 40 ((30 * x3) + x5 : Int32).toNatClampNeg)), (7, .int (st.1 40 ((30 * x2) + x5 : Int32).toNatClampNeg)), (6, .int (st.1 40 ((30 * x1) + x5 : Int32).toNatClampNeg)), (0, .ref 7), (1, .int x1), (2, .int x2), (3, .int x3)]) rfl ?_
          refine X_goto C dX7_strangeTo_104 (tgt := 6) (by decide) ?_
          refine X_loc [5, 6, 7, 8, 1, 0] rfl ?_
          exact h
        · replace h := h.2 c
          refine X_iload C dX7_strangeTo_79 (j := 2) rfl ?_
          refine X_iload C dX7_strangeTo_81 (j := 1) rfl ?_
          refine X_icmp_eq C dX7_strangeTo_83 (tgt := 97) (by decide) (fun c => ?_) (fun c => ?_)
          · replace h := h.1 c
            refine X_iconst C (v := 0) (by decide) dX7_strangeTo_97 ?_
            refine X_iadd C dX7_strangeTo_98 ?_
            refine X_istore C dX7_strangeTo_99 (by decide) (L' := [(4, .int (x4 + 0)), (8, .int (st.1 40 ((30 * x3) + x5 : Int32).toNatClampNeg)), (7, .int (st.1 40 ((30 * x2) + x5 : Int32).toNatClampNeg)), (6, .int (st.1 40 ((30 * x1) + x5 : Int32).toNatClampNeg)), (0, .ref 7), (1, .int x1), (2, .int x2), (3, .int x3), (5, .int x5)]) rfl ?_
            refine X_iinc C dX7_strangeTo_101 (j := 8) rfl (v := x5 + 1) rfl (by decide) (L' := [(5, .int (x5 + 1)), (4, .int (x4 + 0)), (8, .int (st.1 40 ((30 * x3) + x5 : Int32).toNatClampNeg)), (7, .int (st.1 40 ((30 * x2) + x5 : Int32).toNatClampNeg)), (6, .int (st.1 40 ((30 * x1) + x5 : Int32).toNatClampNeg)), (0, .ref 7), (1, .int x1), (2, .int x2), (3, .int x3)]) rfl ?_
            refine X_goto C dX7_strangeTo_104 (tgt := 6) (by decide) ?_
            refine X_loc [5, 6, 7, 8, 1, 0] rfl ?_
            exact h
          · replace h := h.2 c
            refine X_iload C dX7_strangeTo_86 (j := 2) rfl ?_
            refine X_iload C dX7_strangeTo_88 (j := 0) rfl ?_
            refine X_icmp_eq C dX7_strangeTo_90 (tgt := 97) (by decide) (fun c => ?_) (fun c => ?_)
            · replace h := h.1 c
              refine X_iconst C (v := 0) (by decide) dX7_strangeTo_97 ?_
              refine X_iadd C dX7_strangeTo_98 ?_
              refine X_istore C dX7_strangeTo_99 (by decide) (L' := [(4, .int (x4 + 0)), (8, .int (st.1 40 ((30 * x3) + x5 : Int32).toNatClampNeg)), (7, .int (st.1 40 ((30 * x2) + x5 : Int32).toNatClampNeg)), (6, .int (st.1 40 ((30 * x1) + x5 : Int32).toNatClampNeg)), (0, .ref 7), (1, .int x1), (2, .int x2), (3, .int x3), (5, .int x5)]) rfl ?_
              refine X_iinc C dX7_strangeTo_101 (j := 8) rfl (v := x5 + 1) rfl (by decide) (L' := [(5, .int (x5 + 1)), (4, .int (x4 + 0)), (8, .int (st.1 40 ((30 * x3) + x5 : Int32).toNatClampNeg)), (7, .int (st.1 40 ((30 * x2) + x5 : Int32).toNatClampNeg)), (6, .int (st.1 40 ((30 * x1) + x5 : Int32).toNatClampNeg)), (0, .ref 7), (1, .int x1), (2, .int x2), (3, .int x3)]) rfl ?_
              refine X_goto C dX7_strangeTo_104 (tgt := 6) (by decide) ?_
              refine X_loc [5, 6, 7, 8, 1, 0] rfl ?_
              exact h
            · replace h := h.2 c
              refine X_iconst C (v := 1) (by decide) dX7_strangeTo_93 ?_
              refine X_goto C dX7_strangeTo_94 (tgt := 98) (by decide) ?_
              refine X_iadd C dX7_strangeTo_98 ?_
              refine X_istore C dX7_strangeTo_99 (by decide) (L' := [(4, .int (x4 + 1)), (8, .int (st.1 40 ((30 * x3) + x5 : Int32).toNatClampNeg)), (7, .int (st.1 40 ((30 * x2) + x5 : Int32).toNatClampNeg)), (6, .int (st.1 40 ((30 * x1) + x5 : Int32).toNatClampNeg)), (0, .ref 7), (1, .int x1), (2, .int x2), (3, .int x3), (5, .int x5)]) rfl ?_
              refine X_iinc C dX7_strangeTo_101 (j := 8) rfl (v := x5 + 1) rfl (by decide) (L' := [(5, .int (x5 + 1)), (4, .int (x4 + 1)), (8, .int (st.1 40 ((30 * x3) + x5 : Int32).toNatClampNeg)), (7, .int (st.1 40 ((30 * x2) + x5 : Int32).toNatClampNeg)), (6, .int (st.1 40 ((30 * x1) + x5 : Int32).toNatClampNeg)), (0, .ref 7), (1, .int x1), (2, .int x2), (3, .int x3)]) rfl ?_
              refine X_goto C dX7_strangeTo_104 (tgt := 6) (by decide) ?_
              refine X_loc [5, 6, 7, 8, 1, 0] rfl ?_
              exact h
set_option maxHeartbeats 4000000 in
set_option maxRecDepth 100000 in
theorem eX7_strangeTo {d : Nat} {Q : Option Value → xSt → Prop} (a1 : Int32) (a2 : Int32) (a3 : Int32) (st : xSt) (h : ∀ κ : xK, Cx κ M_X7_strangeTo (d) → xR κ Q → X κ 6 [(0, .ref 7), (1, .int a1), (2, .int a2), (3, .int a3), (4, .int 0), (5, .int 0)] [] st) : Ct (d) M_X7_strangeTo [.ref 7, .int a1, .int a2, .int a3] st Q := by
  refine Ct_of (by decide +kernel) (Nat.le_of_ble_eq_true rfl) (fun κ C Z => ?_)
  replace h := h κ C Z
  show X κ 0 [(0, .ref 7), (1, .int a1), (2, .int a2), (3, .int a3)] [] st
  refine X_iconst C (v := 0) (by decide) dX7_strangeTo_0 ?_
  refine X_istore C dX7_strangeTo_1 (by decide) (L' := [(4, .int 0), (0, .ref 7), (1, .int a1), (2, .int a2), (3, .int a3)]) rfl ?_
  refine X_iconst C (v := 0) (by decide) dX7_strangeTo_3 ?_
  refine X_istore C dX7_strangeTo_4 (by decide) (L' := [(5, .int 0), (4, .int 0), (0, .ref 7), (1, .int a1), (2, .int a2), (3, .int a3)]) rfl ?_
  refine X_loc [2, 3, 4, 5, 1, 0] rfl ?_
  exact h
set_option maxHeartbeats 4000000 in
set_option maxRecDepth 100000 in
theorem eX7_mayBear {d : Nat} {Q : Option Value → xSt → Prop} (a1 : Int32) (a2 : Int32) (st : xSt) (h : vp_in a1 8 ∧ vp_in a2 8 ∧ (((st.1 39 (a2 : Int32).toNatClampNeg) ≤ (st.1 39 (a1 : Int32).toNatClampNeg) → Q (some (.int 0)) st) ∧ (¬ (st.1 39 (a2 : Int32).toNatClampNeg) ≤ (st.1 39 (a1 : Int32).toNatClampNeg) → vp_in a1 8 ∧ vp_in a2 8 ∧ ((¬ (st.1 38 (a1 : Int32).toNatClampNeg) = (st.1 38 (a2 : Int32).toNatClampNeg) → Q (some (.int 0)) st) ∧ ((st.1 38 (a1 : Int32).toNatClampNeg) = (st.1 38 (a2 : Int32).toNatClampNeg) → Q (some (.int 1)) st))))) : Ct (d) M_X7_mayBear [.ref 7, .int a1, .int a2] st Q := by
  refine Ct_of (by decide +kernel) (Nat.le_of_ble_eq_true rfl) (fun κ C Z => ?_)
  show X κ 0 [(0, .ref 7), (1, .int a1), (2, .int a2)] [] st
  refine X_aload_n C dX7_mayBear_0 rfl (j := 0) rfl ?_
  refine X_getR C sh_7 rfl fw_RX7_48 dX7_mayBear_1 ?_
  refine X_iload_n C dX7_mayBear_4 rfl (j := 1) rfl ?_
  obtain ⟨g1, h⟩ := h
  refine X_iald C sh_39 g1 dX7_mayBear_5 ?_
  refine X_aload_n C dX7_mayBear_6 rfl (j := 0) rfl ?_
  refine X_getR C sh_7 rfl fw_RX7_48 dX7_mayBear_7 ?_
  refine X_iload_n C dX7_mayBear_10 rfl (j := 2) rfl ?_
  obtain ⟨g2, h⟩ := h
  refine X_iald C sh_39 g2 dX7_mayBear_11 ?_
  refine X_icmp_ge C dX7_mayBear_12 (tgt := 34) (by decide) (fun c => ?_) (fun c => ?_)
  · replace h := h.1 c
    refine X_iconst C (v := 0) (by decide) dX7_mayBear_34 ?_
    exact X_zret C Z rfl (by decide) dX7_mayBear_35 h
  · replace h := h.2 c
    refine X_aload_n C dX7_mayBear_15 rfl (j := 0) rfl ?_
    refine X_getR C sh_7 rfl fw_RX7_45 dX7_mayBear_16 ?_
    refine X_iload_n C dX7_mayBear_19 rfl (j := 1) rfl ?_
    obtain ⟨g3, h⟩ := h
    refine X_iald C sh_38 g3 dX7_mayBear_20 ?_
    refine X_aload_n C dX7_mayBear_21 rfl (j := 0) rfl ?_
    refine X_getR C sh_7 rfl fw_RX7_45 dX7_mayBear_22 ?_
    refine X_iload_n C dX7_mayBear_25 rfl (j := 2) rfl ?_
    obtain ⟨g4, h⟩ := h
    refine X_iald C sh_38 g4 dX7_mayBear_26 ?_
    refine X_icmp_ne C dX7_mayBear_27 (tgt := 34) (by decide) (fun c => ?_) (fun c => ?_)
    · replace h := h.1 c
      refine X_iconst C (v := 0) (by decide) dX7_mayBear_34 ?_
      exact X_zret C Z rfl (by decide) dX7_mayBear_35 h
    · replace h := h.2 c
      refine X_iconst C (v := 1) (by decide) dX7_mayBear_30 ?_
      refine X_goto C dX7_mayBear_31 (tgt := 35) (by decide) ?_
      exact X_zret C Z rfl (by decide) dX7_mayBear_35 h
set_option maxHeartbeats 4000000 in
set_option maxRecDepth 100000 in
theorem bX7_mothersOf_9 {κ : xK} {d : Nat} {Q : Option Value → xSt → Prop} (C : Cx κ M_X7_mothersOf (d + 1)) (Z : xR κ Q) (x1 : Int32) (x2 : Int32) (x3 : Int32) (st : xSt) (h : (((st.1 7 14) ≤ x3 → Q (some (.int x2)) st) ∧ (¬ (st.1 7 14) ≤ x3 → X κ 22 [(0, .ref 7), (1, .int x1), (2, .int x2), (3, .int x3), (4, .int (x3 + 1))] [] st))) : X κ 9 [(0, .ref 7), (1, .int x1), (2, .int x2), (3, .int x3)] [] st := by
  refine X_iload_n C dX7_mothersOf_9 rfl (j := 3) rfl ?_
  refine X_aload_n C dX7_mothersOf_10 rfl (j := 0) rfl ?_
  refine X_getI C sh_7 rfl fw_RX7_180 dX7_mothersOf_11 ?_
  refine X_icmp_ge C dX7_mothersOf_14 (tgt := 100) (by decide) (fun c => ?_) (fun c => ?_)
  · replace h := h.1 c
    refine X_iload_n C dX7_mothersOf_100 rfl (j := 2) rfl ?_
    exact X_iret C Z rfl dX7_mothersOf_101 h
  · replace h := h.2 c
    refine X_iload_n C dX7_mothersOf_17 rfl (j := 3) rfl ?_
    refine X_iconst C (v := 1) (by decide) dX7_mothersOf_18 ?_
    refine X_iadd C dX7_mothersOf_19 ?_
    refine X_istore C dX7_mothersOf_20 (by decide) (L' := [(4, .int (x3 + 1)), (0, .ref 7), (1, .int x1), (2, .int x2), (3, .int x3)]) rfl ?_
    refine X_loc [1, 2, 3, 4, 0] rfl ?_
    exact h
set_option maxHeartbeats 4000000 in
set_option maxRecDepth 100000 in
theorem bX7_mothersOf_22 {κ : xK} {d : Nat} {Q : Option Value → xSt → Prop} (C : Cx κ M_X7_mothersOf (d + 1)) (Z : xR κ Q) (x1 : Int32) (x2 : Int32) (x3 : Int32) (x4 : Int32) (st : xSt) (h : (((st.1 7 14) ≤ x4 → X κ 9 [(0, .ref 7), (1, .int x1), (2, .int x2), (3, .int (x3 + 1))] [] st) ∧ (¬ (st.1 7 14) ≤ x4 → Ct d M_X7_mayBear [.ref 7, .int x3, .int x1] st (Qi fun v2 s1 => ((v2 = 0 → X κ 22 [(0, .ref 7), (1, .int x1), (2, .int x2), (3, .int x3), (4, .int (x4 + 1))] [] s1) ∧ (¬ v2 = 0 → Ct d M_X7_mayBear [.ref 7, .int x4, .int x1] s1 (Qi fun v4 s3 => ((v4 = 0 → X κ 22 [(0, .ref 7), (1, .int x1), (2, .int x2), (3, .int x3), (4, .int (x4 + 1))] [] s3) ∧ (¬ v4 = 0 → Ct d M_X7_strangeTo [.ref 7, .int x1, .int x3, .int x4] s3 (Qi fun v6 s5 => ((x2 = ((-1)) → X κ 22 [(0, .ref 7), (1, .int x1), (2, .int ((10 * x3) + x4)), (3, .int x3), (4, .int (x4 + 1))] [] (xup s5 7 19 v6)) ∧ (¬ x2 = ((-1)) → (((s5.1 7 19) ≤ v6 → X κ 22 [(0, .ref 7), (1, .int x1), (2, .int x2), (3, .int x3), (4, .int (x4 + 1))] [] s5) ∧ (¬ (s5.1 7 19) ≤ v6 → X κ 22 [(0, .ref 7), (1, .int x1), (2, .int ((10 * x3) + x4)), (3, .int x3), (4, .int (x4 + 1))] [] (xup s5 7 19 v6))))))))))))))) : X κ 22 [(0, .ref 7), (1, .int x1), (2, .int x2), (3, .int x3), (4, .int x4)] [] st := by
  refine X_iload C dX7_mothersOf_22 (j := 4) rfl ?_
  refine X_aload_n C dX7_mothersOf_24 rfl (j := 0) rfl ?_
  refine X_getI C sh_7 rfl fw_RX7_180 dX7_mothersOf_25 ?_
  refine X_icmp_ge C dX7_mothersOf_28 (tgt := 94) (by decide) (fun c => ?_) (fun c => ?_)
  · replace h := h.1 c
    refine X_iinc C dX7_mothersOf_94 (j := 3) rfl (v := x3 + 1) rfl (by decide) (L' := [(3, .int (x3 + 1)), (0, .ref 7), (1, .int x1), (2, .int x2), (4, .int x4)]) rfl ?_
    refine X_goto C dX7_mothersOf_97 (tgt := 9) (by decide) ?_
    refine X_loc [1, 2, 3, 0] rfl ?_
    exact h
  · replace h := h.2 c
    refine X_aload_n C dX7_mothersOf_31 rfl (j := 0) rfl ?_
    refine X_iload_n C dX7_mothersOf_32 rfl (j := 3) rfl ?_
    refine X_iload_n C dX7_mothersOf_33 rfl (j := 1) rfl ?_
    refine X_callV C dX7_mothersOf_34 pw_RX7_201 (b := 7) (as := [.int x3, .int x1]) (S := []) sh_7 rfl rfl rfl (Nat.le_of_ble_eq_true rfl) (Ct_mono h ?_)
    rintro _ s1 ⟨v2, rfl, h⟩
    show X κ 37 [(0, .ref 7), (1, .int x1), (2, .int x2), (3, .int x3), (4, .int x4)] [.int v2] s1
    refine X_if_eq C dX7_mothersOf_37 (tgt := 88) (by decide) (fun c => ?_) (fun c => ?_)
    · replace h := h.1 c
      refine X_iinc C dX7_mothersOf_88 (j := 4) rfl (v := x4 + 1) rfl (by decide) (L' := [(4, .int (x4 + 1)), (0, .ref 7), (1, .int x1), (2, .int x2), (3, .int x3)]) rfl ?_
      refine X_goto C dX7_mothersOf_91 (tgt := 22) (by decide) ?_
      refine X_loc [1, 2, 3, 4, 0] rfl ?_
      exact h
    · replace h := h.2 c
      refine X_aload_n C dX7_mothersOf_40 rfl (j := 0) rfl ?_
      refine X_iload C dX7_mothersOf_41 (j := 4) rfl ?_
      refine X_iload_n C dX7_mothersOf_43 rfl (j := 1) rfl ?_
      refine X_callV C dX7_mothersOf_44 pw_RX7_201 (b := 7) (as := [.int x4, .int x1]) (S := []) sh_7 rfl rfl rfl (Nat.le_of_ble_eq_true rfl) (Ct_mono h ?_)
      rintro _ s3 ⟨v4, rfl, h⟩
      show X κ 47 [(0, .ref 7), (1, .int x1), (2, .int x2), (3, .int x3), (4, .int x4)] [.int v4] s3
      refine X_if_eq C dX7_mothersOf_47 (tgt := 88) (by decide) (fun c => ?_) (fun c => ?_)
      · replace h := h.1 c
        refine X_iinc C dX7_mothersOf_88 (j := 4) rfl (v := x4 + 1) rfl (by decide) (L' := [(4, .int (x4 + 1)), (0, .ref 7), (1, .int x1), (2, .int x2), (3, .int x3)]) rfl ?_
        refine X_goto C dX7_mothersOf_91 (tgt := 22) (by decide) ?_
        refine X_loc [1, 2, 3, 4, 0] rfl ?_
        exact h
      · replace h := h.2 c
        refine X_aload_n C dX7_mothersOf_50 rfl (j := 0) rfl ?_
        refine X_iload_n C dX7_mothersOf_51 rfl (j := 1) rfl ?_
        refine X_iload_n C dX7_mothersOf_52 rfl (j := 3) rfl ?_
        refine X_iload C dX7_mothersOf_53 (j := 4) rfl ?_
        refine X_callV C dX7_mothersOf_55 pw_RX7_205 (b := 7) (as := [.int x1, .int x3, .int x4]) (S := []) sh_7 rfl rfl rfl (Nat.le_of_ble_eq_true rfl) (Ct_mono h ?_)
        rintro _ s5 ⟨v6, rfl, h⟩
        show X κ 58 [(0, .ref 7), (1, .int x1), (2, .int x2), (3, .int x3), (4, .int x4)] [.int v6] s5
        refine X_istore C dX7_mothersOf_58 (by decide) (L' := [(5, .int v6), (0, .ref 7), (1, .int x1), (2, .int x2), (3, .int x3), (4, .int x4)]) rfl ?_
        refine X_iload_n C dX7_mothersOf_60 rfl (j := 3) rfl ?_
        refine X_iconst C (v := (-1)) (by decide) dX7_mothersOf_61 ?_
        refine X_icmp_eq C dX7_mothersOf_62 (tgt := 74) (by decide) (fun c => ?_) (fun c => ?_)
        · replace h := h.1 c
          refine X_bipush C (v := 10) (by decide) dX7_mothersOf_74 ?_
          refine X_iload_n C dX7_mothersOf_76 rfl (j := 4) rfl ?_
          refine X_imul C dX7_mothersOf_77 ?_
          refine X_iload C dX7_mothersOf_78 (j := 5) rfl ?_
          refine X_iadd C dX7_mothersOf_80 ?_
          refine X_istore_n C dX7_mothersOf_81 rfl (by decide) (L' := [(2, .int ((10 * x3) + x4)), (5, .int v6), (0, .ref 7), (1, .int x1), (3, .int x3), (4, .int x4)]) rfl ?_
          refine X_aload_n C dX7_mothersOf_82 rfl (j := 2) rfl ?_
          refine X_iload C dX7_mothersOf_83 (j := 1) rfl ?_
          refine X_putI C sh_7 rfl fp_RX7_198 dX7_mothersOf_85 ?_
          refine X_iinc C dX7_mothersOf_88 (j := 5) rfl (v := x4 + 1) rfl (by decide) (L' := [(4, .int (x4 + 1)), (2, .int ((10 * x3) + x4)), (5, .int v6), (0, .ref 7), (1, .int x1), (3, .int x3)]) rfl ?_
          refine X_goto C dX7_mothersOf_91 (tgt := 22) (by decide) ?_
          refine X_loc [3, 4, 1, 5, 0] rfl ?_
          exact h
        · replace h := h.2 c
          refine X_iload C dX7_mothersOf_65 (j := 0) rfl ?_
          refine X_aload_n C dX7_mothersOf_67 rfl (j := 1) rfl ?_
          refine X_getI C sh_7 rfl fw_RX7_198 dX7_mothersOf_68 ?_
          refine X_icmp_ge C dX7_mothersOf_71 (tgt := 88) (by decide) (fun c => ?_) (fun c => ?_)
          · replace h := h.1 c
            refine X_iinc C dX7_mothersOf_88 (j := 5) rfl (v := x4 + 1) rfl (by decide) (L' := [(4, .int (x4 + 1)), (5, .int v6), (0, .ref 7), (1, .int x1), (2, .int x2), (3, .int x3)]) rfl ?_
            refine X_goto C dX7_mothersOf_91 (tgt := 22) (by decide) ?_
            refine X_loc [2, 3, 4, 5, 0] rfl ?_
            exact h
          · replace h := h.2 c
            refine X_bipush C (v := 10) (by decide) dX7_mothersOf_74 ?_
            refine X_iload_n C dX7_mothersOf_76 rfl (j := 4) rfl ?_
            refine X_imul C dX7_mothersOf_77 ?_
            refine X_iload C dX7_mothersOf_78 (j := 5) rfl ?_
            refine X_iadd C dX7_mothersOf_80 ?_
            refine X_istore_n C dX7_mothersOf_81 rfl (by decide) (L' := [(2, .int ((10 * x3) + x4)), (5, .int v6), (0, .ref 7), (1, .int x1), (3, .int x3), (4, .int x4)]) rfl ?_
            refine X_aload_n C dX7_mothersOf_82 rfl (j := 2) rfl ?_
            refine X_iload C dX7_mothersOf_83 (j := 1) rfl ?_
            refine X_putI C sh_7 rfl fp_RX7_198 dX7_mothersOf_85 ?_
            refine X_iinc C dX7_mothersOf_88 (j := 5) rfl (v := x4 + 1) rfl (by decide) (L' := [(4, .int (x4 + 1)), (2, .int ((10 * x3) + x4)), (5, .int v6), (0, .ref 7), (1, .int x1), (3, .int x3)]) rfl ?_
            refine X_goto C dX7_mothersOf_91 (tgt := 22) (by decide) ?_
            refine X_loc [3, 4, 1, 5, 0] rfl ?_
            exact h
set_option maxHeartbeats 4000000 in
set_option maxRecDepth 100000 in
theorem eX7_mothersOf {d : Nat} {Q : Option Value → xSt → Prop} (a1 : Int32) (st : xSt) (h : ∀ κ : xK, Cx κ M_X7_mothersOf (d + 1) → xR κ Q → X κ 9 [(0, .ref 7), (1, .int a1), (2, .int ((-1))), (3, .int 0)] [] (xup st 7 19 ((-1)))) : Ct (d + 1) M_X7_mothersOf [.ref 7, .int a1] st Q := by
  refine Ct_of (by decide +kernel) (Nat.le_of_ble_eq_true rfl) (fun κ C Z => ?_)
  replace h := h κ C Z
  show X κ 0 [(0, .ref 7), (1, .int a1)] [] st
  refine X_iconst C (v := (-1)) (by decide) dX7_mothersOf_0 ?_
  refine X_istore_n C dX7_mothersOf_1 rfl (by decide) (L' := [(2, .int ((-1))), (0, .ref 7), (1, .int a1)]) rfl ?_
  refine X_aload_n C dX7_mothersOf_2 rfl (j := 1) rfl ?_
  refine X_iconst C (v := (-1)) (by decide) dX7_mothersOf_3 ?_
  refine X_putI C sh_7 rfl fp_RX7_198 dX7_mothersOf_4 ?_
  refine X_iconst C (v := 0) (by decide) dX7_mothersOf_7 ?_
  refine X_istore_n C dX7_mothersOf_8 rfl (by decide) (L' := [(3, .int 0), (2, .int ((-1))), (0, .ref 7), (1, .int a1)]) rfl ?_
  refine X_loc [2, 3, 1, 0] rfl ?_
  exact h
set_option maxHeartbeats 4000000 in
set_option maxRecDepth 100000 in
theorem eX7_mothers {d : Nat} {Q : Option Value → xSt → Prop} (a1 : Int32) (st : xSt) (h : Ct d M_X7_isList [.ref 7, .int a1] st (Qi fun v2 s1 => ((v2 = 0 → Q (some (.int ((-2)))) s1) ∧ (¬ v2 = 0 → Ct d M_X7_mothersOf [.ref 7, .int a1] s1 (Qi fun v4 s3 => Q (some (.int v4)) s3))))) : Ct (d + 1) M_X7_mothers [.ref 7, .int a1] st Q := by
  refine Ct_of (by decide +kernel) (Nat.le_of_ble_eq_true rfl) (fun κ C Z => ?_)
  show X κ 0 [(0, .ref 7), (1, .int a1)] [] st
  refine X_aload_n C dX7_mothers_0 rfl (j := 0) rfl ?_
  refine X_iload_n C dX7_mothers_1 rfl (j := 1) rfl ?_
  refine X_callV C dX7_mothers_2 pw_RX7_183 (b := 7) (as := [.int a1]) (S := []) sh_7 rfl rfl rfl (Nat.le_of_ble_eq_true rfl) (Ct_mono h ?_)
  rintro _ s1 ⟨v2, rfl, h⟩
  show X κ 5 [(0, .ref 7), (1, .int a1)] [.int v2] s1
  refine X_if_eq C dX7_mothers_5 (tgt := 16) (by decide) (fun c => ?_) (fun c => ?_)
  · replace h := h.1 c
    refine X_bipush C (v := (-2)) (by decide) dX7_mothers_16 ?_
    exact X_iret C Z rfl dX7_mothers_18 h
  · replace h := h.2 c
    refine X_aload_n C dX7_mothers_8 rfl (j := 0) rfl ?_
    refine X_iload_n C dX7_mothers_9 rfl (j := 1) rfl ?_
    refine X_callV C dX7_mothers_10 pw_RX7_208 (b := 7) (as := [.int a1]) (S := []) sh_7 rfl rfl rfl (Nat.le_of_ble_eq_true rfl) (Ct_mono h ?_)
    rintro _ s3 ⟨v4, rfl, h⟩
    show X κ 13 [(0, .ref 7), (1, .int a1)] [.int v4] s3
    refine X_goto C dX7_mothers_13 (tgt := 18) (by decide) ?_
    exact X_iret C Z rfl dX7_mothers_18 h
set_option maxHeartbeats 4000000 in
set_option maxRecDepth 100000 in
theorem eX7_strange {d : Nat} {Q : Option Value → xSt → Prop} (a1 : Int32) (st : xSt) (h : Ct d M_X7_isList [.ref 7, .int a1] st (Qi fun v2 s1 => ((¬ v2 = 0 → Ct d M_X7_mothersOf [.ref 7, .int a1] s1 (Qi fun v4 s3 => Q (some (.int (s3.1 7 19))) s3)) ∧ (v2 = 0 → Q (some (.int ((-2)))) s1)))) : Ct (d + 1) M_X7_strange [.ref 7, .int a1] st Q := by
  refine Ct_of (by decide +kernel) (Nat.le_of_ble_eq_true rfl) (fun κ C Z => ?_)
  show X κ 0 [(0, .ref 7), (1, .int a1)] [] st
  refine X_aload_n C dX7_strange_0 rfl (j := 0) rfl ?_
  refine X_iload_n C dX7_strange_1 rfl (j := 1) rfl ?_
  refine X_callV C dX7_strange_2 pw_RX7_183 (b := 7) (as := [.int a1]) (S := []) sh_7 rfl rfl rfl (Nat.le_of_ble_eq_true rfl) (Ct_mono h ?_)
  rintro _ s1 ⟨v2, rfl, h⟩
  show X κ 5 [(0, .ref 7), (1, .int a1)] [.int v2] s1
  refine X_if_ne C dX7_strange_5 (tgt := 11) (by decide) (fun c => ?_) (fun c => ?_)
  · replace h := h.1 c
    refine X_aload_n C dX7_strange_11 rfl (j := 0) rfl ?_
    refine X_iload_n C dX7_strange_12 rfl (j := 1) rfl ?_
    refine X_callV C dX7_strange_13 pw_RX7_208 (b := 7) (as := [.int a1]) (S := []) sh_7 rfl rfl rfl (Nat.le_of_ble_eq_true rfl) (Ct_mono h ?_)
    rintro _ s3 ⟨v4, rfl, h⟩
    show X κ 16 [(0, .ref 7), (1, .int a1)] [.int v4] s3
    refine X_istore_n C dX7_strange_16 rfl (by decide) (L' := [(2, .int v4), (0, .ref 7), (1, .int a1)]) rfl ?_
    refine X_aload_n C dX7_strange_17 rfl (j := 1) rfl ?_
    refine X_getI C sh_7 rfl fw_RX7_198 dX7_strange_18 ?_
    exact X_iret C Z rfl dX7_strange_21 h
  · replace h := h.2 c
    refine X_bipush C (v := (-2)) (by decide) dX7_strange_8 ?_
    exact X_iret C Z rfl dX7_strange_10 h
set_option maxHeartbeats 4000000 in
set_option maxRecDepth 100000 in
theorem bX7_age_19 {κ : xK} {d : Nat} {Q : Option Value → xSt → Prop} (C : Cx κ M_X7_age (d + 1)) (Z : xR κ Q) (x2 : Int32) (x3 : Int32) (st : xSt) (h : ((x3 = ((-1)) → Q (some (.int x2)) st) ∧ (¬ x3 = ((-1)) → Ct d M_X7_motherOf [.ref 7, .int x3] st (Qi fun v2 s1 => X κ 19 [(0, .ref 7), (2, .int (x2 + 1)), (3, .int v2)] [] s1)))) : X κ 19 [(0, .ref 7), (2, .int x2), (3, .int x3)] [] st := by
  refine X_iload_n C dX7_age_19 rfl (j := 2) rfl ?_
  refine X_iconst C (v := (-1)) (by decide) dX7_age_20 ?_
  refine X_icmp_eq C dX7_age_21 (tgt := 36) (by decide) (fun c => ?_) (fun c => ?_)
  · replace h := h.1 c
    refine X_iload_n C dX7_age_36 rfl (j := 1) rfl ?_
    exact X_iret C Z rfl dX7_age_37 h
  · replace h := h.2 c
    refine X_iinc C dX7_age_24 (j := 1) rfl (v := x2 + 1) rfl (by decide) (L' := [(2, .int (x2 + 1)), (0, .ref 7), (3, .int x3)]) rfl ?_
    refine X_aload_n C dX7_age_27 rfl (j := 1) rfl ?_
    refine X_iload_n C dX7_age_28 rfl (j := 2) rfl ?_
    refine X_callV C dX7_age_29 pw_RX7_195 (b := 7) (as := [.int x3]) (S := []) sh_7 rfl rfl rfl (Nat.le_of_ble_eq_true rfl) (Ct_mono h ?_)
    rintro _ s1 ⟨v2, rfl, h⟩
    show X κ 32 [(2, .int (x2 + 1)), (0, .ref 7), (3, .int x3)] [.int v2] s1
    refine X_istore_n C dX7_age_32 rfl (by decide) (L' := [(3, .int v2), (2, .int (x2 + 1)), (0, .ref 7)]) rfl ?_
    refine X_goto C dX7_age_33 (tgt := 19) (by decide) ?_
    refine X_loc [2, 1, 0] rfl ?_
    exact h
set_option maxHeartbeats 4000000 in
set_option maxRecDepth 100000 in
theorem eX7_age {d : Nat} {Q : Option Value → xSt → Prop} (a1 : Int32) (st : xSt) (h : ∀ κ : xK, Cx κ M_X7_age (d + 1) → xR κ Q → Ct d M_X7_isList [.ref 7, .int a1] st (Qi fun v2 s1 => ((¬ v2 = 0 → Ct d M_X7_motherOf [.ref 7, .int a1] s1 (Qi fun v4 s3 => X κ 19 [(0, .ref 7), (2, .int 0), (3, .int v4)] [] s3)) ∧ (v2 = 0 → Q (some (.int ((-2)))) s1)))) : Ct (d + 1) M_X7_age [.ref 7, .int a1] st Q := by
  refine Ct_of (by decide +kernel) (Nat.le_of_ble_eq_true rfl) (fun κ C Z => ?_)
  replace h := h κ C Z
  show X κ 0 [(0, .ref 7), (1, .int a1)] [] st
  refine X_aload_n C dX7_age_0 rfl (j := 0) rfl ?_
  refine X_iload_n C dX7_age_1 rfl (j := 1) rfl ?_
  refine X_callV C dX7_age_2 pw_RX7_183 (b := 7) (as := [.int a1]) (S := []) sh_7 rfl rfl rfl (Nat.le_of_ble_eq_true rfl) (Ct_mono h ?_)
  rintro _ s1 ⟨v2, rfl, h⟩
  show X κ 5 [(0, .ref 7), (1, .int a1)] [.int v2] s1
  refine X_if_ne C dX7_age_5 (tgt := 11) (by decide) (fun c => ?_) (fun c => ?_)
  · replace h := h.1 c
    refine X_iconst C (v := 0) (by decide) dX7_age_11 ?_
    refine X_istore_n C dX7_age_12 rfl (by decide) (L' := [(2, .int 0), (0, .ref 7), (1, .int a1)]) rfl ?_
    refine X_aload_n C dX7_age_13 rfl (j := 1) rfl ?_
    refine X_iload_n C dX7_age_14 rfl (j := 2) rfl ?_
    refine X_callV C dX7_age_15 pw_RX7_195 (b := 7) (as := [.int a1]) (S := []) sh_7 rfl rfl rfl (Nat.le_of_ble_eq_true rfl) (Ct_mono h ?_)
    rintro _ s3 ⟨v4, rfl, h⟩
    show X κ 18 [(2, .int 0), (0, .ref 7), (1, .int a1)] [.int v4] s3
    refine X_istore_n C dX7_age_18 rfl (by decide) (L' := [(3, .int v4), (2, .int 0), (0, .ref 7), (1, .int a1)]) rfl ?_
    refine X_loc [2, 1, 0] rfl ?_
    exact h
  · replace h := h.2 c
    refine X_bipush C (v := (-2)) (by decide) dX7_age_8 ?_
    exact X_iret C Z rfl dX7_age_10 h
set_option maxHeartbeats 4000000 in
set_option maxRecDepth 100000 in
theorem bX7_slips_61 {κ : xK} {d : Nat} {Q : Option Value → xSt → Prop} (C : Cx κ M_X7_slips (d + 1)) (Z : xR κ Q) (x1 : Int32) (x2 : Int32) (x3 : Int32) (x4 : Int32) (x5 : Int32) (st : xSt) (h : vp_in x1 8 ∧ (((st.1 38 (x1 : Int32).toNatClampNeg) ≤ x5 → Q (some (.int x4)) st) ∧ (¬ (st.1 38 (x1 : Int32).toNatClampNeg) ≤ x5 → vp_in x2 8 ∧ (((st.1 38 (x2 : Int32).toNatClampNeg) ≤ x5 → Q (some (.int x4)) st) ∧ (¬ (st.1 38 (x2 : Int32).toNatClampNeg) ≤ x5 → vp_in ((30 * x1) + x5) 240 ∧ (((st.1 40 ((30 * x1) + x5 : Int32).toNatClampNeg) = ((-1)) → X κ 130 [(0, .ref 7), (1, .int x1), (2, .int x2), (3, .int x3), (4, .int x4), (5, .int x5), (6, .int (st.1 40 ((30 * x1) + x5 : Int32).toNatClampNeg)), (7, .int 0), (8, .int 0)] [] st) ∧ (¬ (st.1 40 ((30 * x1) + x5 : Int32).toNatClampNeg) = ((-1)) → vp_in ((30 * x2) + x5) 240 ∧ ((¬ (st.1 40 ((30 * x1) + x5 : Int32).toNatClampNeg) = (st.1 40 ((30 * x2) + x5 : Int32).toNatClampNeg) → X κ 130 [(0, .ref 7), (1, .int x1), (2, .int x2), (3, .int x3), (4, .int x4), (5, .int x5), (6, .int (st.1 40 ((30 * x1) + x5 : Int32).toNatClampNeg)), (7, .int 0), (8, .int 0)] [] st) ∧ ((st.1 40 ((30 * x1) + x5 : Int32).toNatClampNeg) = (st.1 40 ((30 * x2) + x5 : Int32).toNatClampNeg) → X κ 130 [(0, .ref 7), (1, .int x1), (2, .int x2), (3, .int x3), (4, .int x4), (5, .int x5), (6, .int (st.1 40 ((30 * x1) + x5 : Int32).toNatClampNeg)), (7, .int 1), (8, .int 0)] [] st))))))))) : X κ 61 [(0, .ref 7), (1, .int x1), (2, .int x2), (3, .int x3), (4, .int x4), (5, .int x5)] [] st := by
  refine X_iload C dX7_slips_61 (j := 5) rfl ?_
  refine X_aload_n C dX7_slips_63 rfl (j := 0) rfl ?_
  refine X_getR C sh_7 rfl fw_RX7_45 dX7_slips_64 ?_
  refine X_iload_n C dX7_slips_67 rfl (j := 1) rfl ?_
  obtain ⟨g1, h⟩ := h
  refine X_iald C sh_38 g1 dX7_slips_68 ?_
  refine X_icmp_ge C dX7_slips_69 (tgt := 217) (by decide) (fun c => ?_) (fun c => ?_)
  · replace h := h.1 c
    refine X_iload C dX7_slips_217 (j := 4) rfl ?_
    exact X_iret C Z rfl dX7_slips_219 h
  · replace h := h.2 c
    refine X_iload C dX7_slips_72 (j := 5) rfl ?_
    refine X_aload_n C dX7_slips_74 rfl (j := 0) rfl ?_
    refine X_getR C sh_7 rfl fw_RX7_45 dX7_slips_75 ?_
    refine X_iload_n C dX7_slips_78 rfl (j := 2) rfl ?_
    obtain ⟨g2, h⟩ := h
    refine X_iald C sh_38 g2 dX7_slips_79 ?_
    refine X_icmp_ge C dX7_slips_80 (tgt := 217) (by decide) (fun c => ?_) (fun c => ?_)
    · replace h := h.1 c
      refine X_iload C dX7_slips_217 (j := 4) rfl ?_
      exact X_iret C Z rfl dX7_slips_219 h
    · replace h := h.2 c
      refine X_aload_n C dX7_slips_83 rfl (j := 0) rfl ?_
      refine X_getR C sh_7 rfl fw_RX7_51 dX7_slips_84 ?_
      refine X_bipush C (v := 30) (by decide) dX7_slips_87 ?_
      refine X_iload_n C dX7_slips_89 rfl (j := 1) rfl ?_
      refine X_imul C dX7_slips_90 ?_
      refine X_iload C dX7_slips_91 (j := 5) rfl ?_
      refine X_iadd C dX7_slips_93 ?_
      obtain ⟨g3, h⟩ := h
      refine X_iald C sh_40 g3 dX7_slips_94 ?_
      refine X_istore C dX7_slips_95 (by decide) (L' := [(6, .int (st.1 40 ((30 * x1) + x5 : Int32).toNatClampNeg)), (0, .ref 7), (1, .int x1), (2, .int x2), (3, .int x3), (4, .int x4), (5, .int x5)]) rfl ?_
      refine X_iload C dX7_slips_97 (j := 0) rfl ?_
      refine X_iconst C (v := (-1)) (by decide) dX7_slips_99 ?_
      refine X_icmp_eq C dX7_slips_100 (tgt := 124) (by decide) (fun c => ?_) (fun c => ?_)
      · replace h := h.1 c
        refine X_iconst C (v := 0) (by decide) dX7_slips_124 ?_
        refine X_istore C dX7_slips_125 (by decide) (L' := [(7, .int 0), (6, .int (st.1 40 ((30 * x1) + x5 : Int32).toNatClampNeg)), (0, .ref 7), (1, .int x1), (2, .int x2), (3, .int x3), (4, .int x4), (5, .int x5)]) rfl ?_
        refine X_iconst C (v := 0) (by decide) dX7_slips_127 ?_
        refine X_istore C dX7_slips_128 (by decide) (L' := [(8, .int 0), (7, .int 0), (6, .int (st.1 40 ((30 * x1) + x5 : Int32).toNatClampNeg)), (0, .ref 7), (1, .int x1), (2, .int x2), (3, .int x3), (4, .int x4), (5, .int x5)]) rfl ?_
        refine X_loc [3, 4, 5, 6, 7, 8, 2, 1, 0] rfl ?_
        exact h
      · replace h := h.2 c
        refine X_iload C dX7_slips_103 (j := 0) rfl ?_
        refine X_aload_n C dX7_slips_105 rfl (j := 1) rfl ?_
        refine X_getR C sh_7 rfl fw_RX7_51 dX7_slips_106 ?_
        refine X_bipush C (v := 30) (by decide) dX7_slips_109 ?_
        refine X_iload_n C dX7_slips_111 rfl (j := 3) rfl ?_
        refine X_imul C dX7_slips_112 ?_
        refine X_iload C dX7_slips_113 (j := 6) rfl ?_
        refine X_iadd C dX7_slips_115 ?_
        obtain ⟨g4, h⟩ := h
        refine X_iald C sh_40 g4 dX7_slips_116 ?_
        refine X_icmp_ne C dX7_slips_117 (tgt := 124) (by decide) (fun c => ?_) (fun c => ?_)
        · replace h := h.1 c
          refine X_iconst C (v := 0) (by decide) dX7_slips_124 ?_
          refine X_istore C dX7_slips_125 (by decide) (L' := [(7, .int 0), (6, .int (st.1 40 ((30 * x1) + x5 : Int32).toNatClampNeg)), (0, .ref 7), (1, .int x1), (2, .int x2), (3, .int x3), (4, .int x4), (5, .int x5)]) rfl ?_
          refine X_iconst C (v := 0) (by decide) dX7_slips_127 ?_
          refine X_istore C dX7_slips_128 (by decide) (L' := [(8, .int 0), (7, .int 0), (6, .int (st.1 40 ((30 * x1) + x5 : Int32).toNatClampNeg)), (0, .ref 7), (1, .int x1), (2, .int x2), (3, .int x3), (4, .int x4), (5, .int x5)]) rfl ?_
          refine X_loc [3, 4, 5, 6, 7, 8, 2, 1, 0] rfl ?_
          exact h
        · replace h := h.2 c
          refine X_iconst C (v := 1) (by decide) dX7_slips_120 ?_
          refine X_goto C dX7_slips_121 (tgt := 125) (by decide) ?_
          refine X_istore C dX7_slips_125 (by decide) (L' := [(7, .int 1), (6, .int (st.1 40 ((30 * x1) + x5 : Int32).toNatClampNeg)), (0, .ref 7), (1, .int x1), (2, .int x2), (3, .int x3), (4, .int x4), (5, .int x5)]) rfl ?_
          refine X_iconst C (v := 0) (by decide) dX7_slips_127 ?_
          refine X_istore C dX7_slips_128 (by decide) (L' := [(8, .int 0), (7, .int 1), (6, .int (st.1 40 ((30 * x1) + x5 : Int32).toNatClampNeg)), (0, .ref 7), (1, .int x1), (2, .int x2), (3, .int x3), (4, .int x4), (5, .int x5)]) rfl ?_
          refine X_loc [3, 4, 5, 6, 7, 8, 2, 1, 0] rfl ?_
          exact h
set_option maxHeartbeats 4000000 in
set_option maxRecDepth 100000 in
theorem bX7_slips_130 {κ : xK} {d : Nat} {Q : Option Value → xSt → Prop} (C : Cx κ M_X7_slips (d + 1)) (Z : xR κ Q) (x1 : Int32) (x2 : Int32) (x3 : Int32) (x4 : Int32) (x5 : Int32) (x6 : Int32) (x7 : Int32) (x8 : Int32) (st : xSt) (h : (((st.1 7 14) ≤ x8 → ((x7 = 0 → X κ 61 [(0, .ref 7), (1, .int x1), (2, .int x2), (3, .int x3), (4, .int (x4 + 0)), (5, .int (x5 + 1))] [] st) ∧ (¬ x7 = 0 → X κ 61 [(0, .ref 7), (1, .int x1), (2, .int x2), (3, .int x3), (4, .int (x4 + 1)), (5, .int (x5 + 1))] [] st))) ∧ (¬ (st.1 7 14) ≤ x8 → vp_in x8 8 ∧ ((x3 ≤ (st.1 39 (x8 : Int32).toNatClampNeg) → X κ 130 [(0, .ref 7), (1, .int x1), (2, .int x2), (3, .int x3), (4, .int x4), (5, .int x5), (6, .int x6), (7, .int (x7 &&& 1)), (8, .int (x8 + 1))] [] st) ∧ (¬ x3 ≤ (st.1 39 (x8 : Int32).toNatClampNeg) → vp_in x8 8 ∧ (((st.1 38 (x8 : Int32).toNatClampNeg) ≤ x5 → X κ 130 [(0, .ref 7), (1, .int x1), (2, .int x2), (3, .int x3), (4, .int x4), (5, .int x5), (6, .int x6), (7, .int (x7 &&& 1)), (8, .int (x8 + 1))] [] st) ∧ (¬ (st.1 38 (x8 : Int32).toNatClampNeg) ≤ x5 → vp_in ((30 * x8) + x5) 240 ∧ (((st.1 40 ((30 * x8) + x5 : Int32).toNatClampNeg) = x6 → X κ 130 [(0, .ref 7), (1, .int x1), (2, .int x2), (3, .int x3), (4, .int x4), (5, .int x5), (6, .int x6), (7, .int (x7 &&& 0)), (8, .int (x8 + 1))] [] st) ∧ (¬ (st.1 40 ((30 * x8) + x5 : Int32).toNatClampNeg) = x6 → X κ 130 [(0, .ref 7), (1, .int x1), (2, .int x2), (3, .int x3), (4, .int x4), (5, .int x5), (6, .int x6), (7, .int (x7 &&& 1)), (8, .int (x8 + 1))] [] st))))))))) : X κ 130 [(0, .ref 7), (1, .int x1), (2, .int x2), (3, .int x3), (4, .int x4), (5, .int x5), (6, .int x6), (7, .int x7), (8, .int x8)] [] st := by
  refine X_iload C dX7_slips_130 (j := 8) rfl ?_
  refine X_aload_n C dX7_slips_132 rfl (j := 0) rfl ?_
  refine X_getI C sh_7 rfl fw_RX7_180 dX7_slips_133 ?_
  refine X_icmp_ge C dX7_slips_136 (tgt := 196) (by decide) (fun c => ?_) (fun c => ?_)
  · replace h := h.1 c
    refine X_iload C dX7_slips_196 (j := 4) rfl ?_
    refine X_iload C dX7_slips_198 (j := 7) rfl ?_
    refine X_if_eq C dX7_slips_200 (tgt := 207) (by decide) (fun c => ?_) (fun c => ?_)
    · replace h := h.1 c
      refine X_iconst C (v := 0) (by decide) dX7_slips_207 ?_
      refine X_iadd C dX7_slips_208 ?_
      refine X_istore C dX7_slips_209 (by decide) (L' := [(4, .int (x4 + 0)), (0, .ref 7), (1, .int x1), (2, .int x2), (3, .int x3), (5, .int x5), (6, .int x6), (7, .int x7), (8, .int x8)]) rfl ?_
      refine X_iinc C dX7_slips_211 (j := 5) rfl (v := x5 + 1) rfl (by decide) (L' := [(5, .int (x5 + 1)), (4, .int (x4 + 0)), (0, .ref 7), (1, .int x1), (2, .int x2), (3, .int x3), (6, .int x6), (7, .int x7), (8, .int x8)]) rfl ?_
      refine X_goto C dX7_slips_214 (tgt := 61) (by decide) ?_
      refine X_loc [2, 3, 4, 5, 1, 0] rfl ?_
      exact h
    · replace h := h.2 c
      refine X_iconst C (v := 1) (by decide) dX7_slips_203 ?_
      refine X_goto C dX7_slips_204 (tgt := 208) (by decide) ?_
      refine X_iadd C dX7_slips_208 ?_
      refine X_istore C dX7_slips_209 (by decide) (L' := [(4, .int (x4 + 1)), (0, .ref 7), (1, .int x1), (2, .int x2), (3, .int x3), (5, .int x5), (6, .int x6), (7, .int x7), (8, .int x8)]) rfl ?_
      refine X_iinc C dX7_slips_211 (j := 5) rfl (v := x5 + 1) rfl (by decide) (L' := [(5, .int (x5 + 1)), (4, .int (x4 + 1)), (0, .ref 7), (1, .int x1), (2, .int x2), (3, .int x3), (6, .int x6), (7, .int x7), (8, .int x8)]) rfl ?_
      refine X_goto C dX7_slips_214 (tgt := 61) (by decide) ?_
      refine X_loc [2, 3, 4, 5, 1, 0] rfl ?_
      exact h
  · replace h := h.2 c
    refine X_iload C dX7_slips_139 (j := 7) rfl ?_
    refine X_aload_n C dX7_slips_141 rfl (j := 0) rfl ?_
    refine X_getR C sh_7 rfl fw_RX7_48 dX7_slips_142 ?_
    refine X_iload C dX7_slips_145 (j := 8) rfl ?_
    obtain ⟨g1, h⟩ := h
    refine X_iald C sh_39 g1 dX7_slips_147 ?_
    refine X_iload_n C dX7_slips_148 rfl (j := 3) rfl ?_
    refine X_icmp_ge C dX7_slips_149 (tgt := 182) (by decide) (fun c => ?_) (fun c => ?_)
    · replace h := h.1 c
      refine X_iconst C (v := 1) (by decide) dX7_slips_182 ?_
      refine X_goto C dX7_slips_183 (tgt := 187) (by decide) ?_
      refine X_iand C dX7_slips_187 ?_
      refine X_istore C dX7_slips_188 (by decide) (L' := [(7, .int (x7 &&& 1)), (0, .ref 7), (1, .int x1), (2, .int x2), (3, .int x3), (4, .int x4), (5, .int x5), (6, .int x6), (8, .int x8)]) rfl ?_
      refine X_iinc C dX7_slips_190 (j := 8) rfl (v := x8 + 1) rfl (by decide) (L' := [(8, .int (x8 + 1)), (7, .int (x7 &&& 1)), (0, .ref 7), (1, .int x1), (2, .int x2), (3, .int x3), (4, .int x4), (5, .int x5), (6, .int x6)]) rfl ?_
      refine X_goto C dX7_slips_193 (tgt := 130) (by decide) ?_
      refine X_loc [2, 3, 4, 5, 6, 7, 8, 1, 0] rfl ?_
      exact h
    · replace h := h.2 c
      refine X_iload C dX7_slips_152 (j := 5) rfl ?_
      refine X_aload_n C dX7_slips_154 rfl (j := 0) rfl ?_
      refine X_getR C sh_7 rfl fw_RX7_45 dX7_slips_155 ?_
      refine X_iload C dX7_slips_158 (j := 8) rfl ?_
      obtain ⟨g2, h⟩ := h
      refine X_iald C sh_38 g2 dX7_slips_160 ?_
      refine X_icmp_ge C dX7_slips_161 (tgt := 182) (by decide) (fun c => ?_) (fun c => ?_)
      · replace h := h.1 c
        refine X_iconst C (v := 1) (by decide) dX7_slips_182 ?_
        refine X_goto C dX7_slips_183 (tgt := 187) (by decide) ?_
        refine X_iand C dX7_slips_187 ?_
        refine X_istore C dX7_slips_188 (by decide) (L' := [(7, .int (x7 &&& 1)), (0, .ref 7), (1, .int x1), (2, .int x2), (3, .int x3), (4, .int x4), (5, .int x5), (6, .int x6), (8, .int x8)]) rfl ?_
        refine X_iinc C dX7_slips_190 (j := 8) rfl (v := x8 + 1) rfl (by decide) (L' := [(8, .int (x8 + 1)), (7, .int (x7 &&& 1)), (0, .ref 7), (1, .int x1), (2, .int x2), (3, .int x3), (4, .int x4), (5, .int x5), (6, .int x6)]) rfl ?_
        refine X_goto C dX7_slips_193 (tgt := 130) (by decide) ?_
        refine X_loc [2, 3, 4, 5, 6, 7, 8, 1, 0] rfl ?_
        exact h
      · replace h := h.2 c
        refine X_aload_n C dX7_slips_164 rfl (j := 0) rfl ?_
        refine X_getR C sh_7 rfl fw_RX7_51 dX7_slips_165 ?_
        refine X_bipush C (v := 30) (by decide) dX7_slips_168 ?_
        refine X_iload C dX7_slips_170 (j := 8) rfl ?_
        refine X_imul C dX7_slips_172 ?_
        refine X_iload C dX7_slips_173 (j := 5) rfl ?_
        refine X_iadd C dX7_slips_175 ?_
        obtain ⟨g3, h⟩ := h
        refine X_iald C sh_40 g3 dX7_slips_176 ?_
        refine X_iload C dX7_slips_177 (j := 6) rfl ?_
        refine X_icmp_eq C dX7_slips_179 (tgt := 186) (by decide) (fun c => ?_) (fun c => ?_)
        · replace h := h.1 c
          refine X_iconst C (v := 0) (by decide) dX7_slips_186 ?_
          refine X_iand C dX7_slips_187 ?_
          refine X_istore C dX7_slips_188 (by decide) (L' := [(7, .int (x7 &&& 0)), (0, .ref 7), (1, .int x1), (2, .int x2), (3, .int x3), (4, .int x4), (5, .int x5), (6, .int x6), (8, .int x8)]) rfl ?_
          refine X_iinc C dX7_slips_190 (j := 8) rfl (v := x8 + 1) rfl (by decide) (L' := [(8, .int (x8 + 1)), (7, .int (x7 &&& 0)), (0, .ref 7), (1, .int x1), (2, .int x2), (3, .int x3), (4, .int x4), (5, .int x5), (6, .int x6)]) rfl ?_
          refine X_goto C dX7_slips_193 (tgt := 130) (by decide) ?_
          refine X_loc [2, 3, 4, 5, 6, 7, 8, 1, 0] rfl ?_
          exact h
        · replace h := h.2 c
          refine X_iconst C (v := 1) (by decide) dX7_slips_182 ?_
          refine X_goto C dX7_slips_183 (tgt := 187) (by decide) ?_
          refine X_iand C dX7_slips_187 ?_
          refine X_istore C dX7_slips_188 (by decide) (L' := [(7, .int (x7 &&& 1)), (0, .ref 7), (1, .int x1), (2, .int x2), (3, .int x3), (4, .int x4), (5, .int x5), (6, .int x6), (8, .int x8)]) rfl ?_
          refine X_iinc C dX7_slips_190 (j := 8) rfl (v := x8 + 1) rfl (by decide) (L' := [(8, .int (x8 + 1)), (7, .int (x7 &&& 1)), (0, .ref 7), (1, .int x1), (2, .int x2), (3, .int x3), (4, .int x4), (5, .int x5), (6, .int x6)]) rfl ?_
          refine X_goto C dX7_slips_193 (tgt := 130) (by decide) ?_
          refine X_loc [2, 3, 4, 5, 6, 7, 8, 1, 0] rfl ?_
          exact h
set_option maxHeartbeats 4000000 in
set_option maxRecDepth 100000 in
theorem eX7_slips {d : Nat} {Q : Option Value → xSt → Prop} (a1 : Int32) (a2 : Int32) (st : xSt) (h : ∀ κ : xK, Cx κ M_X7_slips (d + 1) → xR κ Q → Ct d M_X7_isList [.ref 7, .int a1] st (Qi fun v2 s1 => ((v2 = 0 → Q (some (.int ((-2)))) s1) ∧ (¬ v2 = 0 → Ct d M_X7_isList [.ref 7, .int a2] s1 (Qi fun v4 s3 => ((v4 = 0 → Q (some (.int ((-2)))) s3) ∧ (¬ v4 = 0 → ((¬ a1 = a2 → vp_in a1 8 ∧ vp_in a2 8 ∧ (((s3.1 39 (a2 : Int32).toNatClampNeg) ≤ (s3.1 39 (a1 : Int32).toNatClampNeg) → vp_in a2 8 ∧ X κ 61 [(0, .ref 7), (1, .int a1), (2, .int a2), (3, .int (s3.1 39 (a2 : Int32).toNatClampNeg)), (4, .int 0), (5, .int 0)] [] s3) ∧ (¬ (s3.1 39 (a2 : Int32).toNatClampNeg) ≤ (s3.1 39 (a1 : Int32).toNatClampNeg) → vp_in a1 8 ∧ X κ 61 [(0, .ref 7), (1, .int a1), (2, .int a2), (3, .int (s3.1 39 (a1 : Int32).toNatClampNeg)), (4, .int 0), (5, .int 0)] [] s3))) ∧ (a1 = a2 → Q (some (.int ((-2)))) s3))))))))) : Ct (d + 1) M_X7_slips [.ref 7, .int a1, .int a2] st Q := by
  refine Ct_of (by decide +kernel) (Nat.le_of_ble_eq_true rfl) (fun κ C Z => ?_)
  replace h := h κ C Z
  show X κ 0 [(0, .ref 7), (1, .int a1), (2, .int a2)] [] st
  refine X_aload_n C dX7_slips_0 rfl (j := 0) rfl ?_
  refine X_iload_n C dX7_slips_1 rfl (j := 1) rfl ?_
  refine X_callV C dX7_slips_2 pw_RX7_183 (b := 7) (as := [.int a1]) (S := []) sh_7 rfl rfl rfl (Nat.le_of_ble_eq_true rfl) (Ct_mono h ?_)
  rintro _ s1 ⟨v2, rfl, h⟩
  show X κ 5 [(0, .ref 7), (1, .int a1), (2, .int a2)] [.int v2] s1
  refine X_if_eq C dX7_slips_5 (tgt := 21) (by decide) (fun c => ?_) (fun c => ?_)
  · replace h := h.1 c
    refine X_bipush C (v := (-2)) (by decide) dX7_slips_21 ?_
    exact X_iret C Z rfl dX7_slips_23 h
  · replace h := h.2 c
    refine X_aload_n C dX7_slips_8 rfl (j := 0) rfl ?_
    refine X_iload_n C dX7_slips_9 rfl (j := 2) rfl ?_
    refine X_callV C dX7_slips_10 pw_RX7_183 (b := 7) (as := [.int a2]) (S := []) sh_7 rfl rfl rfl (Nat.le_of_ble_eq_true rfl) (Ct_mono h ?_)
    rintro _ s3 ⟨v4, rfl, h⟩
    show X κ 13 [(0, .ref 7), (1, .int a1), (2, .int a2)] [.int v4] s3
    refine X_if_eq C dX7_slips_13 (tgt := 21) (by decide) (fun c => ?_) (fun c => ?_)
    · replace h := h.1 c
      refine X_bipush C (v := (-2)) (by decide) dX7_slips_21 ?_
      exact X_iret C Z rfl dX7_slips_23 h
    · replace h := h.2 c
      refine X_iload_n C dX7_slips_16 rfl (j := 1) rfl ?_
      refine X_iload_n C dX7_slips_17 rfl (j := 2) rfl ?_
      refine X_icmp_ne C dX7_slips_18 (tgt := 24) (by decide) (fun c => ?_) (fun c => ?_)
      · replace h := h.1 c
        refine X_aload_n C dX7_slips_24 rfl (j := 0) rfl ?_
        refine X_getR C sh_7 rfl fw_RX7_48 dX7_slips_25 ?_
        refine X_iload_n C dX7_slips_28 rfl (j := 1) rfl ?_
        obtain ⟨g5, h⟩ := h
        refine X_iald C sh_39 g5 dX7_slips_29 ?_
        refine X_aload_n C dX7_slips_30 rfl (j := 0) rfl ?_
        refine X_getR C sh_7 rfl fw_RX7_48 dX7_slips_31 ?_
        refine X_iload_n C dX7_slips_34 rfl (j := 2) rfl ?_
        obtain ⟨g6, h⟩ := h
        refine X_iald C sh_39 g6 dX7_slips_35 ?_
        refine X_icmp_ge C dX7_slips_36 (tgt := 48) (by decide) (fun c => ?_) (fun c => ?_)
        · replace h := h.1 c
          refine X_aload_n C dX7_slips_48 rfl (j := 0) rfl ?_
          refine X_getR C sh_7 rfl fw_RX7_48 dX7_slips_49 ?_
          refine X_iload_n C dX7_slips_52 rfl (j := 2) rfl ?_
          obtain ⟨g7, h⟩ := h
          refine X_iald C sh_39 g7 dX7_slips_53 ?_
          refine X_istore_n C dX7_slips_54 rfl (by decide) (L' := [(3, .int (s3.1 39 (a2 : Int32).toNatClampNeg)), (0, .ref 7), (1, .int a1), (2, .int a2)]) rfl ?_
          refine X_iconst C (v := 0) (by decide) dX7_slips_55 ?_
          refine X_istore C dX7_slips_56 (by decide) (L' := [(4, .int 0), (3, .int (s3.1 39 (a2 : Int32).toNatClampNeg)), (0, .ref 7), (1, .int a1), (2, .int a2)]) rfl ?_
          refine X_iconst C (v := 0) (by decide) dX7_slips_58 ?_
          refine X_istore C dX7_slips_59 (by decide) (L' := [(5, .int 0), (4, .int 0), (3, .int (s3.1 39 (a2 : Int32).toNatClampNeg)), (0, .ref 7), (1, .int a1), (2, .int a2)]) rfl ?_
          refine X_loc [3, 4, 5, 2, 1, 0] rfl ?_
          exact h
        · replace h := h.2 c
          refine X_aload_n C dX7_slips_39 rfl (j := 0) rfl ?_
          refine X_getR C sh_7 rfl fw_RX7_48 dX7_slips_40 ?_
          refine X_iload_n C dX7_slips_43 rfl (j := 1) rfl ?_
          obtain ⟨g8, h⟩ := h
          refine X_iald C sh_39 g8 dX7_slips_44 ?_
          refine X_goto C dX7_slips_45 (tgt := 54) (by decide) ?_
          refine X_istore_n C dX7_slips_54 rfl (by decide) (L' := [(3, .int (s3.1 39 (a1 : Int32).toNatClampNeg)), (0, .ref 7), (1, .int a1), (2, .int a2)]) rfl ?_
          refine X_iconst C (v := 0) (by decide) dX7_slips_55 ?_
          refine X_istore C dX7_slips_56 (by decide) (L' := [(4, .int 0), (3, .int (s3.1 39 (a1 : Int32).toNatClampNeg)), (0, .ref 7), (1, .int a1), (2, .int a2)]) rfl ?_
          refine X_iconst C (v := 0) (by decide) dX7_slips_58 ?_
          refine X_istore C dX7_slips_59 (by decide) (L' := [(5, .int 0), (4, .int 0), (3, .int (s3.1 39 (a1 : Int32).toNatClampNeg)), (0, .ref 7), (1, .int a1), (2, .int a2)]) rfl ?_
          refine X_loc [3, 4, 5, 2, 1, 0] rfl ?_
          exact h
      · replace h := h.2 c
        refine X_bipush C (v := (-2)) (by decide) dX7_slips_21 ?_
        exact X_iret C Z rfl dX7_slips_23 h
set_option maxHeartbeats 4000000 in
set_option maxRecDepth 100000 in
theorem bX7_doesFit_20 {κ : xK} {d : Nat} {Q : Option Value → xSt → Prop} (C : Cx κ M_X7_doesFit (d + 1)) (Z : xR κ Q) (x1 : Int32) (x2 : Int32) (x3 : Int32) (x4 : Int32) (x5 : Int32) (x6 : Int32) (st : xSt) (h : ((x2 ≤ x6 → Q (some (.int 1)) st) ∧ (¬ x2 ≤ x6 → vp_in ((60 * x1) + x6) 240 ∧ Ct d M_X7_isWord [.int (st.1 46 ((60 * x1) + x6 : Int32).toNatClampNeg)] st (Qi fun v3 s2 => ((v3 = 0 → X κ 20 [(0, .ref 7), (1, .int x1), (2, .int x2), (3, .int x3), (4, .int x4), (5, .int x5), (6, .int (x6 + 1))] [] s2) ∧ (¬ v3 = 0 → Ct d M_X7_placeOf [.ref 7, .int x3, .int (x4 + (x6 * x5))] s2 (Qi fun v5 s4 => Ct d M_X7_wordOf [.ref 7, .int x3, .int v5] s4 (Qi fun v7 s6 => ((v7 = (st.1 46 ((60 * x1) + x6 : Int32).toNatClampNeg) → X κ 20 [(0, .ref 7), (1, .int x1), (2, .int x2), (3, .int x3), (4, .int x4), (5, .int x5), (6, .int (x6 + 1))] [] s6) ∧ (¬ v7 = (st.1 46 ((60 * x1) + x6 : Int32).toNatClampNeg) → Q (some (.int 0)) s6)))))))))) : X κ 20 [(0, .ref 7), (1, .int x1), (2, .int x2), (3, .int x3), (4, .int x4), (5, .int x5), (6, .int x6)] [] st := by
  refine X_iload C dX7_doesFit_20 (j := 6) rfl ?_
  refine X_iload_n C dX7_doesFit_22 rfl (j := 2) rfl ?_
  refine X_icmp_ge C dX7_doesFit_23 (tgt := 79) (by decide) (fun c => ?_) (fun c => ?_)
  · replace h := h.1 c
    refine X_iconst C (v := 1) (by decide) dX7_doesFit_79 ?_
    exact X_zret C Z rfl (by decide) dX7_doesFit_80 h
  · replace h := h.2 c
    refine X_aload_n C dX7_doesFit_26 rfl (j := 0) rfl ?_
    refine X_getR C sh_7 rfl fw_RX7_69 dX7_doesFit_27 ?_
    refine X_bipush C (v := 60) (by decide) dX7_doesFit_30 ?_
    refine X_iload_n C dX7_doesFit_32 rfl (j := 1) rfl ?_
    refine X_imul C dX7_doesFit_33 ?_
    refine X_iload C dX7_doesFit_34 (j := 6) rfl ?_
    refine X_iadd C dX7_doesFit_36 ?_
    obtain ⟨g1, h⟩ := h
    refine X_iald C sh_46 g1 dX7_doesFit_37 ?_
    refine X_istore C dX7_doesFit_38 (by decide) (L' := [(7, .int (st.1 46 ((60 * x1) + x6 : Int32).toNatClampNeg)), (0, .ref 7), (1, .int x1), (2, .int x2), (3, .int x3), (4, .int x4), (5, .int x5), (6, .int x6)]) rfl ?_
    refine X_iload C dX7_doesFit_40 (j := 0) rfl ?_
    refine X_callS C dX7_doesFit_42 pw_RX7_90 (as := [.int (st.1 46 ((60 * x1) + x6 : Int32).toNatClampNeg)]) (S := []) rfl rfl (Nat.le_of_ble_eq_true rfl) (Ct_mono h ?_)
    rintro _ s2 ⟨v3, rfl, h⟩
    show X κ 45 [(7, .int (st.1 46 ((60 * x1) + x6 : Int32).toNatClampNeg)), (0, .ref 7), (1, .int x1), (2, .int x2), (3, .int x3), (4, .int x4), (5, .int x5), (6, .int x6)] [.int v3] s2
    refine X_if_eq C dX7_doesFit_45 (tgt := 73) (by decide) (fun c => ?_) (fun c => ?_)
    · replace h := h.1 c
      refine X_iinc C dX7_doesFit_73 (j := 7) rfl (v := x6 + 1) rfl (by decide) (L' := [(6, .int (x6 + 1)), (7, .int (st.1 46 ((60 * x1) + x6 : Int32).toNatClampNeg)), (0, .ref 7), (1, .int x1), (2, .int x2), (3, .int x3), (4, .int x4), (5, .int x5)]) rfl ?_
      refine X_goto C dX7_doesFit_76 (tgt := 20) (by decide) ?_
      refine X_loc [2, 3, 4, 5, 6, 7, 0] rfl ?_
      exact h
    · replace h := h.2 c
      refine X_aload_n C dX7_doesFit_48 rfl (j := 1) rfl ?_
      refine X_iload_n C dX7_doesFit_49 rfl (j := 4) rfl ?_
      refine X_aload_n C dX7_doesFit_50 rfl (j := 1) rfl ?_
      refine X_iload_n C dX7_doesFit_51 rfl (j := 4) rfl ?_
      refine X_iload C dX7_doesFit_52 (j := 5) rfl ?_
      refine X_iload C dX7_doesFit_54 (j := 7) rfl ?_
      refine X_iload C dX7_doesFit_56 (j := 6) rfl ?_
      refine X_imul C dX7_doesFit_58 ?_
      refine X_iadd C dX7_doesFit_59 ?_
      refine X_callV C dX7_doesFit_60 pw_RX7_115 (b := 7) (as := [.int x3, .int (x4 + (x6 * x5))]) (S := [.int x3, .ref 7]) sh_7 rfl rfl rfl (Nat.le_of_ble_eq_true rfl) (Ct_mono h ?_)
      rintro _ s4 ⟨v5, rfl, h⟩
      show X κ 63 [(7, .int (st.1 46 ((60 * x1) + x6 : Int32).toNatClampNeg)), (0, .ref 7), (1, .int x1), (2, .int x2), (3, .int x3), (4, .int x4), (5, .int x5), (6, .int x6)] [.int v5, .int x3, .ref 7] s4
      refine X_callV C dX7_doesFit_63 pw_RX7_106 (b := 7) (as := [.int x3, .int v5]) (S := []) sh_7 rfl rfl rfl (Nat.le_of_ble_eq_true rfl) (Ct_mono h ?_)
      rintro _ s6 ⟨v7, rfl, h⟩
      show X κ 66 [(7, .int (st.1 46 ((60 * x1) + x6 : Int32).toNatClampNeg)), (0, .ref 7), (1, .int x1), (2, .int x2), (3, .int x3), (4, .int x4), (5, .int x5), (6, .int x6)] [.int v7] s6
      refine X_iload C dX7_doesFit_66 (j := 0) rfl ?_
      refine X_icmp_eq C dX7_doesFit_68 (tgt := 73) (by decide) (fun c => ?_) (fun c => ?_)
      · replace h := h.1 c
        refine X_iinc C dX7_doesFit_73 (j := 7) rfl (v := x6 + 1) rfl (by decide) (L' := [(6, .int (x6 + 1)), (7, .int (st.1 46 ((60 * x1) + x6 : Int32).toNatClampNeg)), (0, .ref 7), (1, .int x1), (2, .int x2), (3, .int x3), (4, .int x4), (5, .int x5)]) rfl ?_
        refine X_goto C dX7_doesFit_76 (tgt := 20) (by decide) ?_
        refine X_loc [2, 3, 4, 5, 6, 7, 0] rfl ?_
        exact h
      · replace h := h.2 c
        refine X_iconst C (v := 0) (by decide) dX7_doesFit_71 ?_
        exact X_zret C Z rfl (by decide) dX7_doesFit_72 h
set_option maxHeartbeats 4000000 in
set_option maxRecDepth 100000 in
theorem eX7_doesFit {d : Nat} {Q : Option Value → xSt → Prop} (a1 : Int32) (a2 : Int32) (a3 : Int32) (a4 : Int32) (a5 : Int32) (st : xSt) (h : ∀ κ : xK, Cx κ M_X7_doesFit (d + 1) → xR κ Q → (((a4 + ((a2 - 1) * a5)) ≤ 400 → X κ 20 [(0, .ref 7), (1, .int a1), (2, .int a2), (3, .int a3), (4, .int a4), (5, .int a5), (6, .int 0)] [] st) ∧ (¬ (a4 + ((a2 - 1) * a5)) ≤ 400 → Q (some (.int 0)) st))) : Ct (d + 1) M_X7_doesFit [.ref 7, .int a1, .int a2, .int a3, .int a4, .int a5] st Q := by
  refine Ct_of (by decide +kernel) (Nat.le_of_ble_eq_true rfl) (fun κ C Z => ?_)
  replace h := h κ C Z
  show X κ 0 [(0, .ref 7), (1, .int a1), (2, .int a2), (3, .int a3), (4, .int a4), (5, .int a5)] [] st
  refine X_iload C dX7_doesFit_0 (j := 4) rfl ?_
  refine X_iload_n C dX7_doesFit_2 rfl (j := 2) rfl ?_
  refine X_iconst C (v := 1) (by decide) dX7_doesFit_3 ?_
  refine X_isub C dX7_doesFit_4 ?_
  refine X_iload C dX7_doesFit_5 (j := 5) rfl ?_
  refine X_imul C dX7_doesFit_7 ?_
  refine X_iadd C dX7_doesFit_8 ?_
  refine X_sipush C (v := 400) (by decide) dX7_doesFit_9 ?_
  refine X_icmp_le C dX7_doesFit_12 (tgt := 17) (by decide) (fun c => ?_) (fun c => ?_)
  · replace h := h.1 c
    refine X_iconst C (v := 0) (by decide) dX7_doesFit_17 ?_
    refine X_istore C dX7_doesFit_18 (by decide) (L' := [(6, .int 0), (0, .ref 7), (1, .int a1), (2, .int a2), (3, .int a3), (4, .int a4), (5, .int a5)]) rfl ?_
    refine X_loc [1, 2, 3, 4, 5, 6, 0] rfl ?_
    exact h
  · replace h := h.2 c
    refine X_iconst C (v := 0) (by decide) dX7_doesFit_15 ?_
    exact X_zret C Z rfl (by decide) dX7_doesFit_16 h
set_option maxHeartbeats 4000000 in
set_option maxRecDepth 100000 in
theorem eX7_refuses {d : Nat} {Q : Option Value → xSt → Prop} (a1 : Int32) (a2 : Int32) (st : xSt) (h : Ct d M_X7_isSheet [.int a1] st (Qi fun v2 s1 => ((v2 = 0 → Q (some (.int ((-2)))) s1) ∧ (¬ v2 = 0 → Ct d M_X7_in [.int a2, .int 1, .int 30] s1 (Qi fun v4 s3 => ((¬ v4 = 0 → vp_in a1 4 ∧ ((¬ (s3.1 43 (a1 : Int32).toNatClampNeg) = 0 → vp_in a1 4 ∧ ((a2 ≤ (s3.1 45 (a1 : Int32).toNatClampNeg) → Q (some (.int 0)) s3) ∧ (¬ a2 ≤ (s3.1 45 (a1 : Int32).toNatClampNeg) → Ct d M_X7_meets [.ref 7, .int 2] s3 (Qi fun v8 s7 => Q (some (.int v8)) s7)))) ∧ ((s3.1 43 (a1 : Int32).toNatClampNeg) = 0 → Ct d M_X7_meets [.ref 7, .int 1] s3 (Qi fun v10 s9 => Q (some (.int v10)) s9)))) ∧ (v4 = 0 → Q (some (.int ((-2)))) s3))))))) : Ct (d + 1) M_X7_refuses [.ref 7, .int a1, .int a2] st Q := by
  refine Ct_of (by decide +kernel) (Nat.le_of_ble_eq_true rfl) (fun κ C Z => ?_)
  show X κ 0 [(0, .ref 7), (1, .int a1), (2, .int a2)] [] st
  refine X_iload_n C dX7_refuses_0 rfl (j := 1) rfl ?_
  refine X_callS C dX7_refuses_1 pw_RX7_82 (as := [.int a1]) (S := []) rfl rfl (Nat.le_of_ble_eq_true rfl) (Ct_mono h ?_)
  rintro _ s1 ⟨v2, rfl, h⟩
  show X κ 4 [(0, .ref 7), (1, .int a1), (2, .int a2)] [.int v2] s1
  refine X_if_eq C dX7_refuses_4 (tgt := 17) (by decide) (fun c => ?_) (fun c => ?_)
  · replace h := h.1 c
    refine X_bipush C (v := (-2)) (by decide) dX7_refuses_17 ?_
    exact X_iret C Z rfl dX7_refuses_19 h
  · replace h := h.2 c
    refine X_iload_n C dX7_refuses_7 rfl (j := 2) rfl ?_
    refine X_iconst C (v := 1) (by decide) dX7_refuses_8 ?_
    refine X_bipush C (v := 30) (by decide) dX7_refuses_9 ?_
    refine X_callS C dX7_refuses_11 pw_RX7_75 (as := [.int a2, .int 1, .int 30]) (S := []) rfl rfl (Nat.le_of_ble_eq_true rfl) (Ct_mono h ?_)
    rintro _ s3 ⟨v4, rfl, h⟩
    show X κ 14 [(0, .ref 7), (1, .int a1), (2, .int a2)] [.int v4] s3
    refine X_if_ne C dX7_refuses_14 (tgt := 20) (by decide) (fun c => ?_) (fun c => ?_)
    · replace h := h.1 c
      refine X_aload_n C dX7_refuses_20 rfl (j := 0) rfl ?_
      refine X_getR C sh_7 rfl fw_RX7_60 dX7_refuses_21 ?_
      refine X_iload_n C dX7_refuses_24 rfl (j := 1) rfl ?_
      obtain ⟨g5, h⟩ := h
      refine X_zald C sh_43 g5 dX7_refuses_25 ?_
      refine X_if_ne C dX7_refuses_26 (tgt := 37) (by decide) (fun c => ?_) (fun c => ?_)
      · replace h := h.1 c
        refine X_aload_n C dX7_refuses_37 rfl (j := 0) rfl ?_
        refine X_getR C sh_7 rfl fw_RX7_66 dX7_refuses_38 ?_
        refine X_iload_n C dX7_refuses_41 rfl (j := 1) rfl ?_
        obtain ⟨g6, h⟩ := h
        refine X_iald C sh_45 g6 dX7_refuses_42 ?_
        refine X_iload_n C dX7_refuses_43 rfl (j := 2) rfl ?_
        refine X_icmp_ge C dX7_refuses_44 (tgt := 55) (by decide) (fun c => ?_) (fun c => ?_)
        · replace h := h.1 c
          refine X_iconst C (v := 0) (by decide) dX7_refuses_55 ?_
          exact X_iret C Z rfl dX7_refuses_56 h
        · replace h := h.2 c
          refine X_aload_n C dX7_refuses_47 rfl (j := 0) rfl ?_
          refine X_iconst C (v := 2) (by decide) dX7_refuses_48 ?_
          refine X_callV C dX7_refuses_49 pw_RX7_86 (b := 7) (as := [.int 2]) (S := []) sh_7 rfl rfl rfl (Nat.le_of_ble_eq_true rfl) (Ct_mono h ?_)
          rintro _ s7 ⟨v8, rfl, h⟩
          show X κ 52 [(0, .ref 7), (1, .int a1), (2, .int a2)] [.int v8] s7
          refine X_goto C dX7_refuses_52 (tgt := 56) (by decide) ?_
          exact X_iret C Z rfl dX7_refuses_56 h
      · replace h := h.2 c
        refine X_aload_n C dX7_refuses_29 rfl (j := 0) rfl ?_
        refine X_iconst C (v := 1) (by decide) dX7_refuses_30 ?_
        refine X_callV C dX7_refuses_31 pw_RX7_86 (b := 7) (as := [.int 1]) (S := []) sh_7 rfl rfl rfl (Nat.le_of_ble_eq_true rfl) (Ct_mono h ?_)
        rintro _ s9 ⟨v10, rfl, h⟩
        show X κ 34 [(0, .ref 7), (1, .int a1), (2, .int a2)] [.int v10] s9
        refine X_goto C dX7_refuses_34 (tgt := 56) (by decide) ?_
        exact X_iret C Z rfl dX7_refuses_56 h
    · replace h := h.2 c
      refine X_bipush C (v := (-2)) (by decide) dX7_refuses_17 ?_
      exact X_iret C Z rfl dX7_refuses_19 h
set_option maxHeartbeats 4000000 in
set_option maxRecDepth 100000 in
theorem bX7_readingOf_8 {κ : xK} {d : Nat} {Q : Option Value → xSt → Prop} (C : Cx κ M_X7_readingOf (d + 1)) (Z : xR κ Q) (x1 : Int32) (x2 : Int32) (x3 : Int32) (x4 : Int32) (st : xSt) (h : (((st.1 7 0) ≤ x4 → Q (some (.int ((-1)))) st) ∧ (¬ (st.1 7 0) ≤ x4 → X κ 20 [(0, .ref 7), (1, .int x1), (2, .int x2), (3, .int x3), (4, .int x4), (5, .int 1)] [] st))) : X κ 8 [(0, .ref 7), (1, .int x1), (2, .int x2), (3, .int x3), (4, .int x4)] [] st := by
  refine X_iload C dX7_readingOf_8 (j := 4) rfl ?_
  refine X_aload_n C dX7_readingOf_10 rfl (j := 0) rfl ?_
  refine X_getI C sh_7 rfl fw_RX7_79 dX7_readingOf_11 ?_
  refine X_icmp_ge C dX7_readingOf_14 (tgt := 104) (by decide) (fun c => ?_) (fun c => ?_)
  · replace h := h.1 c
    refine X_iconst C (v := (-1)) (by decide) dX7_readingOf_104 ?_
    exact X_iret C Z rfl dX7_readingOf_105 h
  · replace h := h.2 c
    refine X_iconst C (v := 1) (by decide) dX7_readingOf_17 ?_
    refine X_istore C dX7_readingOf_18 (by decide) (L' := [(5, .int 1), (0, .ref 7), (1, .int x1), (2, .int x2), (3, .int x3), (4, .int x4)]) rfl ?_
    refine X_loc [1, 2, 3, 4, 5, 0] rfl ?_
    exact h
set_option maxHeartbeats 4000000 in
set_option maxRecDepth 100000 in
theorem bX7_readingOf_20 {κ : xK} {d : Nat} {Q : Option Value → xSt → Prop} (C : Cx κ M_X7_readingOf (d + 1)) (Z : xR κ Q) (x1 : Int32) (x2 : Int32) (x3 : Int32) (x4 : Int32) (x5 : Int32) (st : xSt) (h : ((100 ≤ x5 → X κ 8 [(0, .ref 7), (1, .int x1), (2, .int x2), (3, .int x3), (4, .int (x4 + 1))] [] st) ∧ (¬ 100 ≤ x5 → X κ 30 [(0, .ref 7), (1, .int x1), (2, .int x2), (3, .int x3), (4, .int x4), (5, .int x5), (6, .int 1)] [] st))) : X κ 20 [(0, .ref 7), (1, .int x1), (2, .int x2), (3, .int x3), (4, .int x4), (5, .int x5)] [] st := by
  refine X_iload C dX7_readingOf_20 (j := 5) rfl ?_
  refine X_bipush C (v := 100) (by decide) dX7_readingOf_22 ?_
  refine X_icmp_ge C dX7_readingOf_24 (tgt := 98) (by decide) (fun c => ?_) (fun c => ?_)
  · replace h := h.1 c
    refine X_iinc C dX7_readingOf_98 (j := 4) rfl (v := x4 + 1) rfl (by decide) (L' := [(4, .int (x4 + 1)), (0, .ref 7), (1, .int x1), (2, .int x2), (3, .int x3), (5, .int x5)]) rfl ?_
    refine X_goto C dX7_readingOf_101 (tgt := 8) (by decide) ?_
    refine X_loc [1, 2, 3, 4, 0] rfl ?_
    exact h
  · replace h := h.2 c
    refine X_iconst C (v := 1) (by decide) dX7_readingOf_27 ?_
    refine X_istore C dX7_readingOf_28 (by decide) (L' := [(6, .int 1), (0, .ref 7), (1, .int x1), (2, .int x2), (3, .int x3), (4, .int x4), (5, .int x5)]) rfl ?_
    refine X_loc [1, 2, 3, 4, 5, 6, 0] rfl ?_
    exact h
set_option maxHeartbeats 4000000 in
set_option maxRecDepth 100000 in
theorem bX7_readingOf_30 {κ : xK} {d : Nat} {Q : Option Value → xSt → Prop} (C : Cx κ M_X7_readingOf (d + 1)) (Z : xR κ Q) (x1 : Int32) (x2 : Int32) (x3 : Int32) (x4 : Int32) (x5 : Int32) (x6 : Int32) (st : xSt) (h : ((21 ≤ x6 → X κ 20 [(0, .ref 7), (1, .int x1), (2, .int x2), (3, .int x3), (4, .int x4), (5, .int (x5 + 1))] [] st) ∧ (¬ 21 ≤ x6 → Ct d M_X7_doesFit [.ref 7, .int x1, .int x2, .int x4, .int x5, .int x6] st (Qi fun v2 s1 => ((v2 = 0 → X κ 30 [(0, .ref 7), (1, .int x1), (2, .int x2), (3, .int x3), (4, .int x4), (5, .int x5), (6, .int (x6 + 1))] [] s1) ∧ (¬ v2 = 0 → ((¬ (s1.1 7 20) = x3 → X κ 30 [(0, .ref 7), (1, .int x1), (2, .int x2), (3, .int x3), (4, .int x4), (5, .int x5), (6, .int (x6 + 1))] [] (xup s1 7 20 ((s1.1 7 20) + 1))) ∧ ((s1.1 7 20) = x3 → Q (some (.int (((100000 * x4) + (1000 * x6)) + x5))) s1)))))))) : X κ 30 [(0, .ref 7), (1, .int x1), (2, .int x2), (3, .int x3), (4, .int x4), (5, .int x5), (6, .int x6)] [] st := by
  refine X_iload C dX7_readingOf_30 (j := 6) rfl ?_
  refine X_bipush C (v := 21) (by decide) dX7_readingOf_32 ?_
  refine X_icmp_ge C dX7_readingOf_34 (tgt := 92) (by decide) (fun c => ?_) (fun c => ?_)
  · replace h := h.1 c
    refine X_iinc C dX7_readingOf_92 (j := 5) rfl (v := x5 + 1) rfl (by decide) (L' := [(5, .int (x5 + 1)), (0, .ref 7), (1, .int x1), (2, .int x2), (3, .int x3), (4, .int x4), (6, .int x6)]) rfl ?_
    refine X_goto C dX7_readingOf_95 (tgt := 20) (by decide) ?_
    refine X_loc [1, 2, 3, 4, 5, 0] rfl ?_
    exact h
  · replace h := h.2 c
    refine X_aload_n C dX7_readingOf_37 rfl (j := 0) rfl ?_
    refine X_iload_n C dX7_readingOf_38 rfl (j := 1) rfl ?_
    refine X_iload_n C dX7_readingOf_39 rfl (j := 2) rfl ?_
    refine X_iload C dX7_readingOf_40 (j := 4) rfl ?_
    refine X_iload C dX7_readingOf_42 (j := 5) rfl ?_
    refine X_iload C dX7_readingOf_44 (j := 6) rfl ?_
    refine X_callV C dX7_readingOf_46 pw_RX7_214 (b := 7) (as := [.int x1, .int x2, .int x4, .int x5, .int x6]) (S := []) sh_7 rfl rfl rfl (Nat.le_of_ble_eq_true rfl) (Ct_mono h ?_)
    rintro _ s1 ⟨v2, rfl, h⟩
    show X κ 49 [(0, .ref 7), (1, .int x1), (2, .int x2), (3, .int x3), (4, .int x4), (5, .int x5), (6, .int x6)] [.int v2] s1
    refine X_if_eq C dX7_readingOf_49 (tgt := 86) (by decide) (fun c => ?_) (fun c => ?_)
    · replace h := h.1 c
      refine X_iinc C dX7_readingOf_86 (j := 6) rfl (v := x6 + 1) rfl (by decide) (L' := [(6, .int (x6 + 1)), (0, .ref 7), (1, .int x1), (2, .int x2), (3, .int x3), (4, .int x4), (5, .int x5)]) rfl ?_
      refine X_goto C dX7_readingOf_89 (tgt := 30) (by decide) ?_
      refine X_loc [1, 2, 3, 4, 5, 6, 0] rfl ?_
      exact h
    · replace h := h.2 c
      refine X_aload_n C dX7_readingOf_52 rfl (j := 0) rfl ?_
      refine X_getI C sh_7 rfl fw_RX7_211 dX7_readingOf_53 ?_
      refine X_iload_n C dX7_readingOf_56 rfl (j := 3) rfl ?_
      refine X_icmp_ne C dX7_readingOf_57 (tgt := 76) (by decide) (fun c => ?_) (fun c => ?_)
      · replace h := h.1 c
        refine X_aload_n C dX7_readingOf_76 rfl (j := 0) rfl ?_
        refine X_dup C rfl dX7_readingOf_77 ?_
        refine X_getI C sh_7 rfl fw_RX7_211 dX7_readingOf_78 ?_
        refine X_iconst C (v := 1) (by decide) dX7_readingOf_81 ?_
        refine X_iadd C dX7_readingOf_82 ?_
        refine X_putI C sh_7 rfl fp_RX7_211 dX7_readingOf_83 ?_
        refine X_iinc C dX7_readingOf_86 (j := 6) rfl (v := x6 + 1) rfl (by decide) (L' := [(6, .int (x6 + 1)), (0, .ref 7), (1, .int x1), (2, .int x2), (3, .int x3), (4, .int x4), (5, .int x5)]) rfl ?_
        refine X_goto C dX7_readingOf_89 (tgt := 30) (by decide) ?_
        refine X_loc [1, 2, 3, 4, 5, 6, 0] rfl ?_
        exact h
      · replace h := h.2 c
        refine X_ldc C (v := 100000) u_1427 dX7_readingOf_60 ?_
        refine X_iload C dX7_readingOf_62 (j := 4) rfl ?_
        refine X_imul C dX7_readingOf_64 ?_
        refine X_sipush C (v := 1000) (by decide) dX7_readingOf_65 ?_
        refine X_iload C dX7_readingOf_68 (j := 6) rfl ?_
        refine X_imul C dX7_readingOf_70 ?_
        refine X_iadd C dX7_readingOf_71 ?_
        refine X_iload C dX7_readingOf_72 (j := 5) rfl ?_
        refine X_iadd C dX7_readingOf_74 ?_
        exact X_iret C Z rfl dX7_readingOf_75 h
set_option maxHeartbeats 4000000 in
set_option maxRecDepth 100000 in
theorem eX7_readingOf {d : Nat} {Q : Option Value → xSt → Prop} (a1 : Int32) (a2 : Int32) (a3 : Int32) (st : xSt) (h : ∀ κ : xK, Cx κ M_X7_readingOf (d + 1) → xR κ Q → X κ 8 [(0, .ref 7), (1, .int a1), (2, .int a2), (3, .int a3), (4, .int 0)] [] (xup st 7 20 0)) : Ct (d + 1) M_X7_readingOf [.ref 7, .int a1, .int a2, .int a3] st Q := by
  refine Ct_of (by decide +kernel) (Nat.le_of_ble_eq_true rfl) (fun κ C Z => ?_)
  replace h := h κ C Z
  show X κ 0 [(0, .ref 7), (1, .int a1), (2, .int a2), (3, .int a3)] [] st
  refine X_aload_n C dX7_readingOf_0 rfl (j := 0) rfl ?_
  refine X_iconst C (v := 0) (by decide) dX7_readingOf_1 ?_
  refine X_putI C sh_7 rfl fp_RX7_211 dX7_readingOf_2 ?_
  refine X_iconst C (v := 0) (by decide) dX7_readingOf_5 ?_
  refine X_istore C dX7_readingOf_6 (by decide) (L' := [(4, .int 0), (0, .ref 7), (1, .int a1), (2, .int a2), (3, .int a3)]) rfl ?_
  refine X_loc [1, 2, 3, 4, 0] rfl ?_
  exact h
set_option maxHeartbeats 4000000 in
set_option maxRecDepth 100000 in
theorem eX7_readings {d : Nat} {Q : Option Value → xSt → Prop} (a1 : Int32) (a2 : Int32) (st : xSt) (h : Ct d M_X7_refuses [.ref 7, .int a1, .int a2] st (Qi fun v2 s1 => ((v2 = 0 → Ct d M_X7_readingOf [.ref 7, .int a1, .int a2, .int ((-1))] s1 (Qi fun v4 s3 => Q (some (.int (s3.1 7 20))) s3)) ∧ (¬ v2 = 0 → Q (some (.int v2)) s1)))) : Ct (d + 1) M_X7_readings [.ref 7, .int a1, .int a2] st Q := by
  refine Ct_of (by decide +kernel) (Nat.le_of_ble_eq_true rfl) (fun κ C Z => ?_)
  show X κ 0 [(0, .ref 7), (1, .int a1), (2, .int a2)] [] st
  refine X_aload_n C dX7_readings_0 rfl (j := 0) rfl ?_
  refine X_iload_n C dX7_readings_1 rfl (j := 1) rfl ?_
  refine X_iload_n C dX7_readings_2 rfl (j := 2) rfl ?_
  refine X_callV C dX7_readings_3 pw_RX7_218 (b := 7) (as := [.int a1, .int a2]) (S := []) sh_7 rfl rfl rfl (Nat.le_of_ble_eq_true rfl) (Ct_mono h ?_)
  rintro _ s1 ⟨v2, rfl, h⟩
  show X κ 6 [(0, .ref 7), (1, .int a1), (2, .int a2)] [.int v2] s1
  refine X_istore_n C dX7_readings_6 rfl (by decide) (L' := [(3, .int v2), (0, .ref 7), (1, .int a1), (2, .int a2)]) rfl ?_
  refine X_iload_n C dX7_readings_7 rfl (j := 0) rfl ?_
  refine X_if_eq C dX7_readings_8 (tgt := 13) (by decide) (fun c => ?_) (fun c => ?_)
  · replace h := h.1 c
    refine X_aload_n C dX7_readings_13 rfl (j := 1) rfl ?_
    refine X_iload_n C dX7_readings_14 rfl (j := 2) rfl ?_
    refine X_iload_n C dX7_readings_15 rfl (j := 3) rfl ?_
    refine X_iconst C (v := (-1)) (by decide) dX7_readings_16 ?_
    refine X_callV C dX7_readings_17 pw_RX7_221 (b := 7) (as := [.int a1, .int a2, .int ((-1))]) (S := []) sh_7 rfl rfl rfl (Nat.le_of_ble_eq_true rfl) (Ct_mono h ?_)
    rintro _ s3 ⟨v4, rfl, h⟩
    show X κ 20 [(3, .int v2), (0, .ref 7), (1, .int a1), (2, .int a2)] [.int v4] s3
    refine X_istore C dX7_readings_20 (by decide) (L' := [(4, .int v4), (3, .int v2), (0, .ref 7), (1, .int a1), (2, .int a2)]) rfl ?_
    refine X_aload_n C dX7_readings_22 rfl (j := 2) rfl ?_
    refine X_getI C sh_7 rfl fw_RX7_211 dX7_readings_23 ?_
    exact X_iret C Z rfl dX7_readings_26 h
  · replace h := h.2 c
    refine X_iload_n C dX7_readings_11 rfl (j := 0) rfl ?_
    exact X_iret C Z rfl dX7_readings_12 h
set_option maxHeartbeats 4000000 in
set_option maxRecDepth 100000 in
theorem eX7_reading {d : Nat} {Q : Option Value → xSt → Prop} (a1 : Int32) (a2 : Int32) (a3 : Int32) (st : xSt) (h : ((0 ≤ a3 → Ct d M_X7_refuses [.ref 7, .int a1, .int a2] st (Qi fun v2 s1 => ((v2 = 0 → Ct d M_X7_readingOf [.ref 7, .int a1, .int a2, .int a3] s1 (Qi fun v4 s3 => Q (some (.int v4)) s3)) ∧ (¬ v2 = 0 → Q (some (.int v2)) s1)))) ∧ (¬ 0 ≤ a3 → Q (some (.int ((-2)))) st))) : Ct (d + 1) M_X7_reading [.ref 7, .int a1, .int a2, .int a3] st Q := by
  refine Ct_of (by decide +kernel) (Nat.le_of_ble_eq_true rfl) (fun κ C Z => ?_)
  show X κ 0 [(0, .ref 7), (1, .int a1), (2, .int a2), (3, .int a3)] [] st
  refine X_iload_n C dX7_reading_0 rfl (j := 3) rfl ?_
  refine X_if_ge C dX7_reading_1 (tgt := 7) (by decide) (fun c => ?_) (fun c => ?_)
  · replace h := h.1 c
    refine X_aload_n C dX7_reading_7 rfl (j := 0) rfl ?_
    refine X_iload_n C dX7_reading_8 rfl (j := 1) rfl ?_
    refine X_iload_n C dX7_reading_9 rfl (j := 2) rfl ?_
    refine X_callV C dX7_reading_10 pw_RX7_218 (b := 7) (as := [.int a1, .int a2]) (S := []) sh_7 rfl rfl rfl (Nat.le_of_ble_eq_true rfl) (Ct_mono h ?_)
    rintro _ s1 ⟨v2, rfl, h⟩
    show X κ 13 [(0, .ref 7), (1, .int a1), (2, .int a2), (3, .int a3)] [.int v2] s1
    refine X_istore C dX7_reading_13 (by decide) (L' := [(4, .int v2), (0, .ref 7), (1, .int a1), (2, .int a2), (3, .int a3)]) rfl ?_
    refine X_iload C dX7_reading_15 (j := 0) rfl ?_
    refine X_if_eq C dX7_reading_17 (tgt := 25) (by decide) (fun c => ?_) (fun c => ?_)
    · replace h := h.1 c
      refine X_aload_n C dX7_reading_25 rfl (j := 1) rfl ?_
      refine X_iload_n C dX7_reading_26 rfl (j := 2) rfl ?_
      refine X_iload_n C dX7_reading_27 rfl (j := 3) rfl ?_
      refine X_iload_n C dX7_reading_28 rfl (j := 4) rfl ?_
      refine X_callV C dX7_reading_29 pw_RX7_221 (b := 7) (as := [.int a1, .int a2, .int a3]) (S := []) sh_7 rfl rfl rfl (Nat.le_of_ble_eq_true rfl) (Ct_mono h ?_)
      rintro _ s3 ⟨v4, rfl, h⟩
      show X κ 32 [(4, .int v2), (0, .ref 7), (1, .int a1), (2, .int a2), (3, .int a3)] [.int v4] s3
      exact X_iret C Z rfl dX7_reading_32 h
    · replace h := h.2 c
      refine X_iload C dX7_reading_20 (j := 0) rfl ?_
      refine X_goto C dX7_reading_22 (tgt := 32) (by decide) ?_
      exact X_iret C Z rfl dX7_reading_32 h
  · replace h := h.2 c
    refine X_bipush C (v := (-2)) (by decide) dX7_reading_4 ?_
    exact X_iret C Z rfl dX7_reading_6 h
set_option maxHeartbeats 4000000 in
set_option maxRecDepth 100000 in
theorem eX7_fits {d : Nat} {Q : Option Value → xSt → Prop} (a1 : Int32) (a2 : Int32) (a3 : Int32) (a4 : Int32) (a5 : Int32) (st : xSt) (h : Ct d M_X7_isCount [.ref 7, .int a3] st (Qi fun v2 s1 => ((v2 = 0 → Q (some (.int ((-2)))) s1) ∧ (¬ v2 = 0 → Ct d M_X7_in [.int a4, .int 1, .int 99] s1 (Qi fun v4 s3 => ((v4 = 0 → Q (some (.int ((-2)))) s3) ∧ (¬ v4 = 0 → Ct d M_X7_in [.int a5, .int 1, .int 20] s3 (Qi fun v6 s5 => ((¬ v6 = 0 → Ct d M_X7_refuses [.ref 7, .int a1, .int a2] s5 (Qi fun v8 s7 => ((v8 = 0 → Ct d M_X7_doesFit [.ref 7, .int a1, .int a2, .int a3, .int a4, .int a5] s7 (Qi fun v10 s9 => ((v10 = 0 → Q (some (.int 0)) s9) ∧ (¬ v10 = 0 → Q (some (.int 1)) s9)))) ∧ (¬ v8 = 0 → Q (some (.int v8)) s7)))) ∧ (v6 = 0 → Q (some (.int ((-2)))) s5)))))))))) : Ct (d + 1) M_X7_fits [.ref 7, .int a1, .int a2, .int a3, .int a4, .int a5] st Q := by
  refine Ct_of (by decide +kernel) (Nat.le_of_ble_eq_true rfl) (fun κ C Z => ?_)
  show X κ 0 [(0, .ref 7), (1, .int a1), (2, .int a2), (3, .int a3), (4, .int a4), (5, .int a5)] [] st
  refine X_aload_n C dX7_fits_0 rfl (j := 0) rfl ?_
  refine X_iload_n C dX7_fits_1 rfl (j := 3) rfl ?_
  refine X_callV C dX7_fits_2 pw_RX7_93 (b := 7) (as := [.int a3]) (S := []) sh_7 rfl rfl rfl (Nat.le_of_ble_eq_true rfl) (Ct_mono h ?_)
  rintro _ s1 ⟨v2, rfl, h⟩
  show X κ 5 [(0, .ref 7), (1, .int a1), (2, .int a2), (3, .int a3), (4, .int a4), (5, .int a5)] [.int v2] s1
  refine X_if_eq C dX7_fits_5 (tgt := 30) (by decide) (fun c => ?_) (fun c => ?_)
  · replace h := h.1 c
    refine X_bipush C (v := (-2)) (by decide) dX7_fits_30 ?_
    exact X_iret C Z rfl dX7_fits_32 h
  · replace h := h.2 c
    refine X_iload C dX7_fits_8 (j := 4) rfl ?_
    refine X_iconst C (v := 1) (by decide) dX7_fits_10 ?_
    refine X_bipush C (v := 99) (by decide) dX7_fits_11 ?_
    refine X_callS C dX7_fits_13 pw_RX7_75 (as := [.int a4, .int 1, .int 99]) (S := []) rfl rfl (Nat.le_of_ble_eq_true rfl) (Ct_mono h ?_)
    rintro _ s3 ⟨v4, rfl, h⟩
    show X κ 16 [(0, .ref 7), (1, .int a1), (2, .int a2), (3, .int a3), (4, .int a4), (5, .int a5)] [.int v4] s3
    refine X_if_eq C dX7_fits_16 (tgt := 30) (by decide) (fun c => ?_) (fun c => ?_)
    · replace h := h.1 c
      refine X_bipush C (v := (-2)) (by decide) dX7_fits_30 ?_
      exact X_iret C Z rfl dX7_fits_32 h
    · replace h := h.2 c
      refine X_iload C dX7_fits_19 (j := 5) rfl ?_
      refine X_iconst C (v := 1) (by decide) dX7_fits_21 ?_
      refine X_bipush C (v := 20) (by decide) dX7_fits_22 ?_
      refine X_callS C dX7_fits_24 pw_RX7_75 (as := [.int a5, .int 1, .int 20]) (S := []) rfl rfl (Nat.le_of_ble_eq_true rfl) (Ct_mono h ?_)
      rintro _ s5 ⟨v6, rfl, h⟩
      show X κ 27 [(0, .ref 7), (1, .int a1), (2, .int a2), (3, .int a3), (4, .int a4), (5, .int a5)] [.int v6] s5
      refine X_if_ne C dX7_fits_27 (tgt := 33) (by decide) (fun c => ?_) (fun c => ?_)
      · replace h := h.1 c
        refine X_aload_n C dX7_fits_33 rfl (j := 0) rfl ?_
        refine X_iload_n C dX7_fits_34 rfl (j := 1) rfl ?_
        refine X_iload_n C dX7_fits_35 rfl (j := 2) rfl ?_
        refine X_callV C dX7_fits_36 pw_RX7_218 (b := 7) (as := [.int a1, .int a2]) (S := []) sh_7 rfl rfl rfl (Nat.le_of_ble_eq_true rfl) (Ct_mono h ?_)
        rintro _ s7 ⟨v8, rfl, h⟩
        show X κ 39 [(0, .ref 7), (1, .int a1), (2, .int a2), (3, .int a3), (4, .int a4), (5, .int a5)] [.int v8] s7
        refine X_istore C dX7_fits_39 (by decide) (L' := [(6, .int v8), (0, .ref 7), (1, .int a1), (2, .int a2), (3, .int a3), (4, .int a4), (5, .int a5)]) rfl ?_
        refine X_iload C dX7_fits_41 (j := 0) rfl ?_
        refine X_if_eq C dX7_fits_43 (tgt := 51) (by decide) (fun c => ?_) (fun c => ?_)
        · replace h := h.1 c
          refine X_aload_n C dX7_fits_51 rfl (j := 1) rfl ?_
          refine X_iload_n C dX7_fits_52 rfl (j := 2) rfl ?_
          refine X_iload_n C dX7_fits_53 rfl (j := 3) rfl ?_
          refine X_iload_n C dX7_fits_54 rfl (j := 4) rfl ?_
          refine X_iload C dX7_fits_55 (j := 5) rfl ?_
          refine X_iload C dX7_fits_57 (j := 6) rfl ?_
          refine X_callV C dX7_fits_59 pw_RX7_214 (b := 7) (as := [.int a1, .int a2, .int a3, .int a4, .int a5]) (S := []) sh_7 rfl rfl rfl (Nat.le_of_ble_eq_true rfl) (Ct_mono h ?_)
          rintro _ s9 ⟨v10, rfl, h⟩
          show X κ 62 [(6, .int v8), (0, .ref 7), (1, .int a1), (2, .int a2), (3, .int a3), (4, .int a4), (5, .int a5)] [.int v10] s9
          refine X_if_eq C dX7_fits_62 (tgt := 69) (by decide) (fun c => ?_) (fun c => ?_)
          · replace h := h.1 c
            refine X_iconst C (v := 0) (by decide) dX7_fits_69 ?_
            exact X_iret C Z rfl dX7_fits_70 h
          · replace h := h.2 c
            refine X_iconst C (v := 1) (by decide) dX7_fits_65 ?_
            refine X_goto C dX7_fits_66 (tgt := 70) (by decide) ?_
            exact X_iret C Z rfl dX7_fits_70 h
        · replace h := h.2 c
          refine X_iload C dX7_fits_46 (j := 0) rfl ?_
          refine X_goto C dX7_fits_48 (tgt := 70) (by decide) ?_
          exact X_iret C Z rfl dX7_fits_70 h
      · replace h := h.2 c
        refine X_bipush C (v := (-2)) (by decide) dX7_fits_30 ?_
        exact X_iret C Z rfl dX7_fits_32 h
set_option maxHeartbeats 4000000 in
set_option maxRecDepth 100000 in
theorem eX7_type {d : Nat} {Q : Option Value → xSt → Prop} (a1 : Int32) (st : xSt) (h : Ct d M_X7_in [.int a1, .int 0, .int 255] st (Qi fun v2 s1 => ((¬ v2 = 0 → ((¬ (s1.1 7 21) = 60 → vp_in (s1.1 7 21) 60 ∧ Q (some (.int ((xup (xup s1 42 (s1.1 7 21 : Int32).toNatClampNeg a1) 7 21 (((xup s1 42 (s1.1 7 21 : Int32).toNatClampNeg a1).1 7 21) + 1)).1 7 21))) (xup (xup s1 42 (s1.1 7 21 : Int32).toNatClampNeg a1) 7 21 (((xup s1 42 (s1.1 7 21 : Int32).toNatClampNeg a1).1 7 21) + 1))) ∧ ((s1.1 7 21) = 60 → Q (some (.int ((-4)))) s1))) ∧ (v2 = 0 → Q (some (.int ((-2)))) s1)))) : Ct (d + 1) M_X7_type [.ref 7, .int a1] st Q := by
  refine Ct_of (by decide +kernel) (Nat.le_of_ble_eq_true rfl) (fun κ C Z => ?_)
  show X κ 0 [(0, .ref 7), (1, .int a1)] [] st
  refine X_iload_n C dX7_type_0 rfl (j := 1) rfl ?_
  refine X_iconst C (v := 0) (by decide) dX7_type_1 ?_
  refine X_sipush C (v := 255) (by decide) dX7_type_2 ?_
  refine X_callS C dX7_type_5 pw_RX7_75 (as := [.int a1, .int 0, .int 255]) (S := []) rfl rfl (Nat.le_of_ble_eq_true rfl) (Ct_mono h ?_)
  rintro _ s1 ⟨v2, rfl, h⟩
  show X κ 8 [(0, .ref 7), (1, .int a1)] [.int v2] s1
  refine X_if_ne C dX7_type_8 (tgt := 14) (by decide) (fun c => ?_) (fun c => ?_)
  · replace h := h.1 c
    refine X_aload_n C dX7_type_14 rfl (j := 0) rfl ?_
    refine X_getI C sh_7 rfl fw_RX7_224 dX7_type_15 ?_
    refine X_bipush C (v := 60) (by decide) dX7_type_18 ?_
    refine X_icmp_ne C dX7_type_20 (tgt := 26) (by decide) (fun c => ?_) (fun c => ?_)
    · replace h := h.1 c
      refine X_aload_n C dX7_type_26 rfl (j := 0) rfl ?_
      refine X_getR C sh_7 rfl fw_RX7_57 dX7_type_27 ?_
      refine X_aload_n C dX7_type_30 rfl (j := 0) rfl ?_
      refine X_getI C sh_7 rfl fw_RX7_224 dX7_type_31 ?_
      refine X_iload_n C dX7_type_34 rfl (j := 1) rfl ?_
      obtain ⟨g3, h⟩ := h
      refine X_iast C sh_42 g3 dX7_type_35 ?_
      refine X_aload_n C dX7_type_36 rfl (j := 0) rfl ?_
      refine X_dup C rfl dX7_type_37 ?_
      refine X_getI C sh_7 rfl fw_RX7_224 dX7_type_38 ?_
      refine X_iconst C (v := 1) (by decide) dX7_type_41 ?_
      refine X_iadd C dX7_type_42 ?_
      refine X_putI C sh_7 rfl fp_RX7_224 dX7_type_43 ?_
      refine X_aload_n C dX7_type_46 rfl (j := 0) rfl ?_
      refine X_getI C sh_7 rfl fw_RX7_224 dX7_type_47 ?_
      exact X_iret C Z rfl dX7_type_50 h
    · replace h := h.2 c
      refine X_bipush C (v := (-4)) (by decide) dX7_type_23 ?_
      exact X_iret C Z rfl dX7_type_25 h
  · replace h := h.2 c
    refine X_bipush C (v := (-2)) (by decide) dX7_type_11 ?_
    exact X_iret C Z rfl dX7_type_13 h
set_option maxHeartbeats 4000000 in
set_option maxRecDepth 100000 in
theorem eX7_hush {d : Nat} {Q : Option Value → xSt → Prop} (st : xSt) (h : Q (some (.int (st.1 7 21))) (xup st 7 21 0)) : Ct (d) M_X7_hush [.ref 7] st Q := by
  refine Ct_of (by decide +kernel) (Nat.le_of_ble_eq_true rfl) (fun κ C Z => ?_)
  show X κ 0 [(0, .ref 7)] [] st
  refine X_aload_n C dX7_hush_0 rfl (j := 0) rfl ?_
  refine X_getI C sh_7 rfl fw_RX7_224 dX7_hush_1 ?_
  refine X_istore_n C dX7_hush_4 rfl (by decide) (L' := [(1, .int (st.1 7 21)), (0, .ref 7)]) rfl ?_
  refine X_aload_n C dX7_hush_5 rfl (j := 1) rfl ?_
  refine X_iconst C (v := 0) (by decide) dX7_hush_6 ?_
  refine X_putI C sh_7 rfl fp_RX7_224 dX7_hush_7 ?_
  refine X_iload_n C dX7_hush_10 rfl (j := 0) rfl ?_
  exact X_iret C Z rfl dX7_hush_11 h
set_option maxHeartbeats 4000000 in
set_option maxRecDepth 100000 in
theorem eX7_byteAt {d : Nat} {Q : Option Value → xSt → Prop} (a1 : Int32) (st : xSt) (h : (((st.1 7 21) ≤ a1 → Q (some (.int ((-1)))) st) ∧ (¬ (st.1 7 21) ≤ a1 → vp_in a1 60 ∧ Q (some (.int (st.1 42 (a1 : Int32).toNatClampNeg))) st))) : Ct (d) M_X7_byteAt [.ref 7, .int a1] st Q := by
  refine Ct_of (by decide +kernel) (Nat.le_of_ble_eq_true rfl) (fun κ C Z => ?_)
  show X κ 0 [(0, .ref 7), (1, .int a1)] [] st
  refine X_iload_n C dX7_byteAt_0 rfl (j := 1) rfl ?_
  refine X_aload_n C dX7_byteAt_1 rfl (j := 0) rfl ?_
  refine X_getI C sh_7 rfl fw_RX7_224 dX7_byteAt_2 ?_
  refine X_icmp_ge C dX7_byteAt_5 (tgt := 17) (by decide) (fun c => ?_) (fun c => ?_)
  · replace h := h.1 c
    refine X_iconst C (v := (-1)) (by decide) dX7_byteAt_17 ?_
    exact X_iret C Z rfl dX7_byteAt_18 h
  · replace h := h.2 c
    refine X_aload_n C dX7_byteAt_8 rfl (j := 0) rfl ?_
    refine X_getR C sh_7 rfl fw_RX7_57 dX7_byteAt_9 ?_
    refine X_iload_n C dX7_byteAt_12 rfl (j := 1) rfl ?_
    obtain ⟨g1, h⟩ := h
    refine X_iald C sh_42 g1 dX7_byteAt_13 ?_
    refine X_goto C dX7_byteAt_14 (tgt := 18) (by decide) ?_
    exact X_iret C Z rfl dX7_byteAt_18 h
set_option maxHeartbeats 4000000 in
set_option maxRecDepth 100000 in
theorem bX7_figures_7 {κ : xK} {d : Nat} {Q : Option Value → xSt → Prop} (C : Cx κ M_X7_figures (d + 1)) (Z : xR κ Q) (x1 : Int32) (x2 : Int32) (st : xSt) (h : (((x1 + 2) ≤ (st.1 7 23) → ((¬ (st.1 7 23) = x1 → Q (some (.int x2)) st) ∧ ((st.1 7 23) = x1 → Q (some (.int ((-1)))) st))) ∧ (¬ (x1 + 2) ≤ (st.1 7 23) → Ct d M_X7_byteAt [.ref 7, .int (st.1 7 23)] st (Qi fun v2 s1 => ((v2 < 48 → ((¬ (s1.1 7 23) = x1 → Q (some (.int x2)) s1) ∧ ((s1.1 7 23) = x1 → Q (some (.int ((-1)))) s1))) ∧ (¬ v2 < 48 → Ct d M_X7_byteAt [.ref 7, .int (s1.1 7 23)] s1 (Qi fun v4 s3 => ((57 < v4 → ((¬ (s3.1 7 23) = x1 → Q (some (.int x2)) s3) ∧ ((s3.1 7 23) = x1 → Q (some (.int ((-1)))) s3))) ∧ (¬ 57 < v4 → Ct d M_X7_byteAt [.ref 7, .int (s3.1 7 23)] s3 (Qi fun v6 s5 => X κ 7 [(0, .ref 7), (1, .int x1), (2, .int (((10 * x2) + v6) - 48))] [] (xup s5 7 23 ((s5.1 7 23) + 1)))))))))))) : X κ 7 [(0, .ref 7), (1, .int x1), (2, .int x2)] [] st := by
  refine X_aload_n C dX7_figures_7 rfl (j := 0) rfl ?_
  refine X_getI C sh_7 rfl fw_RX7_227 dX7_figures_8 ?_
  refine X_iload_n C dX7_figures_11 rfl (j := 1) rfl ?_
  refine X_iconst C (v := 2) (by decide) dX7_figures_12 ?_
  refine X_iadd C dX7_figures_13 ?_
  refine X_icmp_ge C dX7_figures_14 (tgt := 73) (by decide) (fun c => ?_) (fun c => ?_)
  · replace h := h.1 c
    refine X_aload_n C dX7_figures_73 rfl (j := 0) rfl ?_
    refine X_getI C sh_7 rfl fw_RX7_227 dX7_figures_74 ?_
    refine X_iload_n C dX7_figures_77 rfl (j := 1) rfl ?_
    refine X_icmp_ne C dX7_figures_78 (tgt := 85) (by decide) (fun c => ?_) (fun c => ?_)
    · replace h := h.1 c
      refine X_iload_n C dX7_figures_85 rfl (j := 2) rfl ?_
      exact X_iret C Z rfl dX7_figures_86 h
    · replace h := h.2 c
      refine X_iconst C (v := (-1)) (by decide) dX7_figures_81 ?_
      refine X_goto C dX7_figures_82 (tgt := 86) (by decide) ?_
      exact X_iret C Z rfl dX7_figures_86 h
  · replace h := h.2 c
    refine X_aload_n C dX7_figures_17 rfl (j := 0) rfl ?_
    refine X_aload_n C dX7_figures_18 rfl (j := 0) rfl ?_
    refine X_getI C sh_7 rfl fw_RX7_227 dX7_figures_19 ?_
    refine X_callV C dX7_figures_22 pw_RX7_230 (b := 7) (as := [.int (st.1 7 23)]) (S := []) sh_7 rfl rfl rfl (Nat.le_of_ble_eq_true rfl) (Ct_mono h ?_)
    rintro _ s1 ⟨v2, rfl, h⟩
    show X κ 25 [(0, .ref 7), (1, .int x1), (2, .int x2)] [.int v2] s1
    refine X_bipush C (v := 48) (by decide) dX7_figures_25 ?_
    refine X_icmp_lt C dX7_figures_27 (tgt := 73) (by decide) (fun c => ?_) (fun c => ?_)
    · replace h := h.1 c
      refine X_aload_n C dX7_figures_73 rfl (j := 0) rfl ?_
      refine X_getI C sh_7 rfl fw_RX7_227 dX7_figures_74 ?_
      refine X_iload_n C dX7_figures_77 rfl (j := 1) rfl ?_
      refine X_icmp_ne C dX7_figures_78 (tgt := 85) (by decide) (fun c => ?_) (fun c => ?_)
      · replace h := h.1 c
        refine X_iload_n C dX7_figures_85 rfl (j := 2) rfl ?_
        exact X_iret C Z rfl dX7_figures_86 h
      · replace h := h.2 c
        refine X_iconst C (v := (-1)) (by decide) dX7_figures_81 ?_
        refine X_goto C dX7_figures_82 (tgt := 86) (by decide) ?_
        exact X_iret C Z rfl dX7_figures_86 h
    · replace h := h.2 c
      refine X_aload_n C dX7_figures_30 rfl (j := 0) rfl ?_
      refine X_aload_n C dX7_figures_31 rfl (j := 0) rfl ?_
      refine X_getI C sh_7 rfl fw_RX7_227 dX7_figures_32 ?_
      refine X_callV C dX7_figures_35 pw_RX7_230 (b := 7) (as := [.int (s1.1 7 23)]) (S := []) sh_7 rfl rfl rfl (Nat.le_of_ble_eq_true rfl) (Ct_mono h ?_)
      rintro _ s3 ⟨v4, rfl, h⟩
      show X κ 38 [(0, .ref 7), (1, .int x1), (2, .int x2)] [.int v4] s3
      refine X_bipush C (v := 57) (by decide) dX7_figures_38 ?_
      refine X_icmp_gt C dX7_figures_40 (tgt := 73) (by decide) (fun c => ?_) (fun c => ?_)
      · replace h := h.1 c
        refine X_aload_n C dX7_figures_73 rfl (j := 0) rfl ?_
        refine X_getI C sh_7 rfl fw_RX7_227 dX7_figures_74 ?_
        refine X_iload_n C dX7_figures_77 rfl (j := 1) rfl ?_
        refine X_icmp_ne C dX7_figures_78 (tgt := 85) (by decide) (fun c => ?_) (fun c => ?_)
        · replace h := h.1 c
          refine X_iload_n C dX7_figures_85 rfl (j := 2) rfl ?_
          exact X_iret C Z rfl dX7_figures_86 h
        · replace h := h.2 c
          refine X_iconst C (v := (-1)) (by decide) dX7_figures_81 ?_
          refine X_goto C dX7_figures_82 (tgt := 86) (by decide) ?_
          exact X_iret C Z rfl dX7_figures_86 h
      · replace h := h.2 c
        refine X_bipush C (v := 10) (by decide) dX7_figures_43 ?_
        refine X_iload_n C dX7_figures_45 rfl (j := 2) rfl ?_
        refine X_imul C dX7_figures_46 ?_
        refine X_aload_n C dX7_figures_47 rfl (j := 0) rfl ?_
        refine X_aload_n C dX7_figures_48 rfl (j := 0) rfl ?_
        refine X_getI C sh_7 rfl fw_RX7_227 dX7_figures_49 ?_
        refine X_callV C dX7_figures_52 pw_RX7_230 (b := 7) (as := [.int (s3.1 7 23)]) (S := [.int (10 * x2)]) sh_7 rfl rfl rfl (Nat.le_of_ble_eq_true rfl) (Ct_mono h ?_)
        rintro _ s5 ⟨v6, rfl, h⟩
        show X κ 55 [(0, .ref 7), (1, .int x1), (2, .int x2)] [.int v6, .int (10 * x2)] s5
        refine X_iadd C dX7_figures_55 ?_
        refine X_bipush C (v := 48) (by decide) dX7_figures_56 ?_
        refine X_isub C dX7_figures_58 ?_
        refine X_istore_n C dX7_figures_59 rfl (by decide) (L' := [(2, .int (((10 * x2) + v6) - 48)), (0, .ref 7), (1, .int x1)]) rfl ?_
        refine X_aload_n C dX7_figures_60 rfl (j := 1) rfl ?_
        refine X_dup C rfl dX7_figures_61 ?_
        refine X_getI C sh_7 rfl fw_RX7_227 dX7_figures_62 ?_
        refine X_iconst C (v := 1) (by decide) dX7_figures_65 ?_
        refine X_iadd C dX7_figures_66 ?_
        refine X_putI C sh_7 rfl fp_RX7_227 dX7_figures_67 ?_
        refine X_goto C dX7_figures_70 (tgt := 7) (by decide) ?_
        refine X_loc [1, 2, 0] rfl ?_
        exact h
set_option maxHeartbeats 4000000 in
set_option maxRecDepth 100000 in
theorem eX7_figures {d : Nat} {Q : Option Value → xSt → Prop} (st : xSt) (h : ∀ κ : xK, Cx κ M_X7_figures (d + 1) → xR κ Q → X κ 7 [(0, .ref 7), (1, .int (st.1 7 23)), (2, .int 0)] [] st) : Ct (d + 1) M_X7_figures [.ref 7] st Q := by
  refine Ct_of (by decide +kernel) (Nat.le_of_ble_eq_true rfl) (fun κ C Z => ?_)
  replace h := h κ C Z
  show X κ 0 [(0, .ref 7)] [] st
  refine X_aload_n C dX7_figures_0 rfl (j := 0) rfl ?_
  refine X_getI C sh_7 rfl fw_RX7_227 dX7_figures_1 ?_
  refine X_istore_n C dX7_figures_4 rfl (by decide) (L' := [(1, .int (st.1 7 23)), (0, .ref 7)]) rfl ?_
  refine X_iconst C (v := 0) (by decide) dX7_figures_5 ?_
  refine X_istore_n C dX7_figures_6 rfl (by decide) (L' := [(2, .int 0), (1, .int (st.1 7 23)), (0, .ref 7)]) rfl ?_
  refine X_loc [2, 1, 0] rfl ?_
  exact h
set_option maxHeartbeats 4000000 in
set_option maxRecDepth 100000 in
theorem eX7_says {d : Nat} {Q : Option Value → xSt → Prop} (st : xSt) (h : Ct d M_X7_byteAt [.ref 7, .int ((xup st 7 24 0).1 7 23)] (xup st 7 24 0) (Qi fun v2 s1 => ((¬ v2 = 109 → Ct d M_X7_byteAt [.ref 7, .int (s1.1 7 23)] s1 (Qi fun v4 s3 => ((v4 = 112 → Ct d M_X7_figures [.ref 7] (xup s3 7 23 ((s3.1 7 23) + 1)) (Qi fun v6 s5 => ((((xup s5 7 25 v6).1 7 25) = ((-1)) → Q (some (.int ((xup s3 7 23 ((s3.1 7 23) + 1)).1 7 23))) (xup s5 7 25 v6)) ∧ (¬ ((xup s5 7 25 v6).1 7 25) = ((-1)) → ((¬ ((xup s5 7 25 v6).1 7 25) = 0 → Q (some (.int ((-1)))) (xup s5 7 25 v6)) ∧ (((xup s5 7 25 v6).1 7 25) = 0 → Q (some (.int ((xup s3 7 23 ((s3.1 7 23) + 1)).1 7 23))) (xup s5 7 25 v6))))))) ∧ (¬ v4 = 112 → Q (some (.int (s3.1 7 23))) s3)))) ∧ (v2 = 109 → Ct d M_X7_figures [.ref 7] (xup s1 7 23 ((s1.1 7 23) + 1)) (Qi fun v8 s7 => ((¬ ((xup s7 7 24 v8).1 7 24) = ((-1)) → Ct d M_X7_byteAt [.ref 7, .int ((xup s7 7 24 v8).1 7 23)] (xup s7 7 24 v8) (Qi fun v10 s9 => ((v10 = 112 → Ct d M_X7_figures [.ref 7] (xup s9 7 23 ((s9.1 7 23) + 1)) (Qi fun v12 s11 => ((((xup s11 7 25 v12).1 7 25) = ((-1)) → Q (some (.int ((xup s9 7 23 ((s9.1 7 23) + 1)).1 7 23))) (xup s11 7 25 v12)) ∧ (¬ ((xup s11 7 25 v12).1 7 25) = ((-1)) → ((¬ ((xup s11 7 25 v12).1 7 25) = 0 → Q (some (.int ((-1)))) (xup s11 7 25 v12)) ∧ (((xup s11 7 25 v12).1 7 25) = 0 → Q (some (.int ((xup s9 7 23 ((s9.1 7 23) + 1)).1 7 23))) (xup s11 7 25 v12))))))) ∧ (¬ v10 = 112 → Q (some (.int (s9.1 7 23))) s9)))) ∧ (((xup s7 7 24 v8).1 7 24) = ((-1)) → Q (some (.int ((xup s7 7 24 v8).1 7 23))) (xup s7 7 24 v8)))))))) : Ct (d + 1) M_X7_says [.ref 7] st Q := by
  refine Ct_of (by decide +kernel) (Nat.le_of_ble_eq_true rfl) (fun κ C Z => ?_)
  show X κ 0 [(0, .ref 7)] [] st
  refine X_aload_n C dX7_says_0 rfl (j := 0) rfl ?_
  refine X_iconst C (v := 0) (by decide) dX7_says_1 ?_
  refine X_putI C sh_7 rfl fp_RX7_233 dX7_says_2 ?_
  refine X_aload_n C dX7_says_5 rfl (j := 0) rfl ?_
  refine X_aload_n C dX7_says_6 rfl (j := 0) rfl ?_
  refine X_getI C sh_7 rfl fw_RX7_227 dX7_says_7 ?_
  refine X_callV C dX7_says_10 pw_RX7_230 (b := 7) (as := [.int ((xup st 7 24 0).1 7 23)]) (S := []) sh_7 rfl rfl rfl (Nat.le_of_ble_eq_true rfl) (Ct_mono h ?_)
  rintro _ s1 ⟨v2, rfl, h⟩
  show X κ 13 [(0, .ref 7)] [.int v2] s1
  refine X_bipush C (v := 109) (by decide) dX7_says_13 ?_
  refine X_icmp_ne C dX7_says_15 (tgt := 49) (by decide) (fun c => ?_) (fun c => ?_)
  · replace h := h.1 c
    refine X_aload_n C dX7_says_49 rfl (j := 0) rfl ?_
    refine X_aload_n C dX7_says_50 rfl (j := 0) rfl ?_
    refine X_getI C sh_7 rfl fw_RX7_227 dX7_says_51 ?_
    refine X_callV C dX7_says_54 pw_RX7_230 (b := 7) (as := [.int (s1.1 7 23)]) (S := []) sh_7 rfl rfl rfl (Nat.le_of_ble_eq_true rfl) (Ct_mono h ?_)
    rintro _ s3 ⟨v4, rfl, h⟩
    show X κ 57 [(0, .ref 7)] [.int v4] s3
    refine X_bipush C (v := 112) (by decide) dX7_says_57 ?_
    refine X_icmp_eq C dX7_says_59 (tgt := 67) (by decide) (fun c => ?_) (fun c => ?_)
    · replace h := h.1 c
      refine X_aload_n C dX7_says_67 rfl (j := 0) rfl ?_
      refine X_dup C rfl dX7_says_68 ?_
      refine X_getI C sh_7 rfl fw_RX7_227 dX7_says_69 ?_
      refine X_iconst C (v := 1) (by decide) dX7_says_72 ?_
      refine X_iadd C dX7_says_73 ?_
      refine X_putI C sh_7 rfl fp_RX7_227 dX7_says_74 ?_
      refine X_aload_n C dX7_says_77 rfl (j := 0) rfl ?_
      refine X_getI C sh_7 rfl fw_RX7_227 dX7_says_78 ?_
      refine X_istore_n C dX7_says_81 rfl (by decide) (L' := [(1, .int ((xup s3 7 23 ((s3.1 7 23) + 1)).1 7 23)), (0, .ref 7)]) rfl ?_
      refine X_aload_n C dX7_says_82 rfl (j := 1) rfl ?_
      refine X_aload_n C dX7_says_83 rfl (j := 1) rfl ?_
      refine X_callV C dX7_says_84 pw_RX7_236 (b := 7) (as := []) (S := [.ref 7]) sh_7 rfl rfl rfl (Nat.le_of_ble_eq_true rfl) (Ct_mono h ?_)
      rintro _ s5 ⟨v6, rfl, h⟩
      show X κ 87 [(1, .int ((xup s3 7 23 ((s3.1 7 23) + 1)).1 7 23)), (0, .ref 7)] [.int v6, .ref 7] s5
      refine X_putI C sh_7 rfl fp_RX7_239 dX7_says_87 ?_
      refine X_aload_n C dX7_says_90 rfl (j := 1) rfl ?_
      refine X_getI C sh_7 rfl fw_RX7_239 dX7_says_91 ?_
      refine X_iconst C (v := (-1)) (by decide) dX7_says_94 ?_
      refine X_icmp_eq C dX7_says_95 (tgt := 105) (by decide) (fun c => ?_) (fun c => ?_)
      · replace h := h.1 c
        refine X_iload_n C dX7_says_105 rfl (j := 0) rfl ?_
        refine X_goto C dX7_says_106 (tgt := 110) (by decide) ?_
        exact X_iret C Z rfl dX7_says_110 h
      · replace h := h.2 c
        refine X_aload_n C dX7_says_98 rfl (j := 1) rfl ?_
        refine X_getI C sh_7 rfl fw_RX7_239 dX7_says_99 ?_
        refine X_if_ne C dX7_says_102 (tgt := 109) (by decide) (fun c => ?_) (fun c => ?_)
        · replace h := h.1 c
          refine X_iconst C (v := (-1)) (by decide) dX7_says_109 ?_
          exact X_iret C Z rfl dX7_says_110 h
        · replace h := h.2 c
          refine X_iload_n C dX7_says_105 rfl (j := 0) rfl ?_
          refine X_goto C dX7_says_106 (tgt := 110) (by decide) ?_
          exact X_iret C Z rfl dX7_says_110 h
    · replace h := h.2 c
      refine X_aload_n C dX7_says_62 rfl (j := 0) rfl ?_
      refine X_getI C sh_7 rfl fw_RX7_227 dX7_says_63 ?_
      exact X_iret C Z rfl dX7_says_66 h
  · replace h := h.2 c
    refine X_aload_n C dX7_says_18 rfl (j := 0) rfl ?_
    refine X_dup C rfl dX7_says_19 ?_
    refine X_getI C sh_7 rfl fw_RX7_227 dX7_says_20 ?_
    refine X_iconst C (v := 1) (by decide) dX7_says_23 ?_
    refine X_iadd C dX7_says_24 ?_
    refine X_putI C sh_7 rfl fp_RX7_227 dX7_says_25 ?_
    refine X_aload_n C dX7_says_28 rfl (j := 0) rfl ?_
    refine X_aload_n C dX7_says_29 rfl (j := 0) rfl ?_
    refine X_callV C dX7_says_30 pw_RX7_236 (b := 7) (as := []) (S := [.ref 7]) sh_7 rfl rfl rfl (Nat.le_of_ble_eq_true rfl) (Ct_mono h ?_)
    rintro _ s7 ⟨v8, rfl, h⟩
    show X κ 33 [(0, .ref 7)] [.int v8, .ref 7] s7
    refine X_putI C sh_7 rfl fp_RX7_233 dX7_says_33 ?_
    refine X_aload_n C dX7_says_36 rfl (j := 0) rfl ?_
    refine X_getI C sh_7 rfl fw_RX7_233 dX7_says_37 ?_
    refine X_iconst C (v := (-1)) (by decide) dX7_says_40 ?_
    refine X_icmp_ne C dX7_says_41 (tgt := 49) (by decide) (fun c => ?_) (fun c => ?_)
    · replace h := h.1 c
      refine X_aload_n C dX7_says_49 rfl (j := 0) rfl ?_
      refine X_aload_n C dX7_says_50 rfl (j := 0) rfl ?_
      refine X_getI C sh_7 rfl fw_RX7_227 dX7_says_51 ?_
      refine X_callV C dX7_says_54 pw_RX7_230 (b := 7) (as := [.int ((xup s7 7 24 v8).1 7 23)]) (S := []) sh_7 rfl rfl rfl (Nat.le_of_ble_eq_true rfl) (Ct_mono h ?_)
      rintro _ s9 ⟨v10, rfl, h⟩
      show X κ 57 [(0, .ref 7)] [.int v10] s9
      refine X_bipush C (v := 112) (by decide) dX7_says_57 ?_
      refine X_icmp_eq C dX7_says_59 (tgt := 67) (by decide) (fun c => ?_) (fun c => ?_)
      · replace h := h.1 c
        refine X_aload_n C dX7_says_67 rfl (j := 0) rfl ?_
        refine X_dup C rfl dX7_says_68 ?_
        refine X_getI C sh_7 rfl fw_RX7_227 dX7_says_69 ?_
        refine X_iconst C (v := 1) (by decide) dX7_says_72 ?_
        refine X_iadd C dX7_says_73 ?_
        refine X_putI C sh_7 rfl fp_RX7_227 dX7_says_74 ?_
        refine X_aload_n C dX7_says_77 rfl (j := 0) rfl ?_
        refine X_getI C sh_7 rfl fw_RX7_227 dX7_says_78 ?_
        refine X_istore_n C dX7_says_81 rfl (by decide) (L' := [(1, .int ((xup s9 7 23 ((s9.1 7 23) + 1)).1 7 23)), (0, .ref 7)]) rfl ?_
        refine X_aload_n C dX7_says_82 rfl (j := 1) rfl ?_
        refine X_aload_n C dX7_says_83 rfl (j := 1) rfl ?_
        refine X_callV C dX7_says_84 pw_RX7_236 (b := 7) (as := []) (S := [.ref 7]) sh_7 rfl rfl rfl (Nat.le_of_ble_eq_true rfl) (Ct_mono h ?_)
        rintro _ s11 ⟨v12, rfl, h⟩
        show X κ 87 [(1, .int ((xup s9 7 23 ((s9.1 7 23) + 1)).1 7 23)), (0, .ref 7)] [.int v12, .ref 7] s11
        refine X_putI C sh_7 rfl fp_RX7_239 dX7_says_87 ?_
        refine X_aload_n C dX7_says_90 rfl (j := 1) rfl ?_
        refine X_getI C sh_7 rfl fw_RX7_239 dX7_says_91 ?_
        refine X_iconst C (v := (-1)) (by decide) dX7_says_94 ?_
        refine X_icmp_eq C dX7_says_95 (tgt := 105) (by decide) (fun c => ?_) (fun c => ?_)
        · replace h := h.1 c
          refine X_iload_n C dX7_says_105 rfl (j := 0) rfl ?_
          refine X_goto C dX7_says_106 (tgt := 110) (by decide) ?_
          exact X_iret C Z rfl dX7_says_110 h
        · replace h := h.2 c
          refine X_aload_n C dX7_says_98 rfl (j := 1) rfl ?_
          refine X_getI C sh_7 rfl fw_RX7_239 dX7_says_99 ?_
          refine X_if_ne C dX7_says_102 (tgt := 109) (by decide) (fun c => ?_) (fun c => ?_)
          · replace h := h.1 c
            refine X_iconst C (v := (-1)) (by decide) dX7_says_109 ?_
            exact X_iret C Z rfl dX7_says_110 h
          · replace h := h.2 c
            refine X_iload_n C dX7_says_105 rfl (j := 0) rfl ?_
            refine X_goto C dX7_says_106 (tgt := 110) (by decide) ?_
            exact X_iret C Z rfl dX7_says_110 h
      · replace h := h.2 c
        refine X_aload_n C dX7_says_62 rfl (j := 0) rfl ?_
        refine X_getI C sh_7 rfl fw_RX7_227 dX7_says_63 ?_
        exact X_iret C Z rfl dX7_says_66 h
    · replace h := h.2 c
      refine X_aload_n C dX7_says_44 rfl (j := 0) rfl ?_
      refine X_getI C sh_7 rfl fw_RX7_227 dX7_says_45 ?_
      exact X_iret C Z rfl dX7_says_48 h
set_option maxHeartbeats 4000000 in
set_option maxRecDepth 100000 in
theorem bX7_faultNow_10 {κ : xK} {d : Nat} {Q : Option Value → xSt → Prop} (C : Cx κ M_X7_faultNow (d + 1)) (Z : xR κ Q) (x1 : Int32) (st : xSt) (h : ((¬ x1 = ((-1)) → Q (some (.int x1)) st) ∧ (x1 = ((-1)) → (((st.1 7 21) ≤ (st.1 7 23) → Q (some (.int x1)) st) ∧ (¬ (st.1 7 21) ≤ (st.1 7 23) → Ct d M_X7_byteAt [.ref 7, .int (st.1 7 23)] st (Qi fun v2 s1 => ((v2 = 43 → Ct d M_X7_says [.ref 7] (xup s1 7 23 ((s1.1 7 23) + 1)) (Qi fun v4 s3 => X κ 10 [(0, .ref 7), (1, .int v4)] [] s3)) ∧ (¬ v2 = 43 → Ct d M_X7_byteAt [.ref 7, .int (s1.1 7 23)] s1 (Qi fun v6 s5 => ((v6 = 45 → Ct d M_X7_says [.ref 7] (xup s5 7 23 ((s5.1 7 23) + 1)) (Qi fun v8 s7 => X κ 10 [(0, .ref 7), (1, .int v8)] [] s7)) ∧ (¬ v6 = 45 → Q (some (.int (s5.1 7 23))) s5))))))))))) : X κ 10 [(0, .ref 7), (1, .int x1)] [] st := by
  refine X_iload_n C dX7_faultNow_10 rfl (j := 1) rfl ?_
  refine X_iconst C (v := (-1)) (by decide) dX7_faultNow_11 ?_
  refine X_icmp_ne C dX7_faultNow_12 (tgt := 75) (by decide) (fun c => ?_) (fun c => ?_)
  · replace h := h.1 c
    refine X_iload_n C dX7_faultNow_75 rfl (j := 1) rfl ?_
    exact X_iret C Z rfl dX7_faultNow_76 h
  · replace h := h.2 c
    refine X_aload_n C dX7_faultNow_15 rfl (j := 0) rfl ?_
    refine X_getI C sh_7 rfl fw_RX7_227 dX7_faultNow_16 ?_
    refine X_aload_n C dX7_faultNow_19 rfl (j := 0) rfl ?_
    refine X_getI C sh_7 rfl fw_RX7_224 dX7_faultNow_20 ?_
    refine X_icmp_ge C dX7_faultNow_23 (tgt := 75) (by decide) (fun c => ?_) (fun c => ?_)
    · replace h := h.1 c
      refine X_iload_n C dX7_faultNow_75 rfl (j := 1) rfl ?_
      exact X_iret C Z rfl dX7_faultNow_76 h
    · replace h := h.2 c
      refine X_aload_n C dX7_faultNow_26 rfl (j := 0) rfl ?_
      refine X_aload_n C dX7_faultNow_27 rfl (j := 0) rfl ?_
      refine X_getI C sh_7 rfl fw_RX7_227 dX7_faultNow_28 ?_
      refine X_callV C dX7_faultNow_31 pw_RX7_230 (b := 7) (as := [.int (st.1 7 23)]) (S := []) sh_7 rfl rfl rfl (Nat.le_of_ble_eq_true rfl) (Ct_mono h ?_)
      rintro _ s1 ⟨v2, rfl, h⟩
      show X κ 34 [(0, .ref 7), (1, .int x1)] [.int v2] s1
      refine X_bipush C (v := 43) (by decide) dX7_faultNow_34 ?_
      refine X_icmp_eq C dX7_faultNow_36 (tgt := 57) (by decide) (fun c => ?_) (fun c => ?_)
      · replace h := h.1 c
        refine X_aload_n C dX7_faultNow_57 rfl (j := 0) rfl ?_
        refine X_dup C rfl dX7_faultNow_58 ?_
        refine X_getI C sh_7 rfl fw_RX7_227 dX7_faultNow_59 ?_
        refine X_iconst C (v := 1) (by decide) dX7_faultNow_62 ?_
        refine X_iadd C dX7_faultNow_63 ?_
        refine X_putI C sh_7 rfl fp_RX7_227 dX7_faultNow_64 ?_
        refine X_aload_n C dX7_faultNow_67 rfl (j := 0) rfl ?_
        refine X_callV C dX7_faultNow_68 pw_RX7_242 (b := 7) (as := []) (S := []) sh_7 rfl rfl rfl (Nat.le_of_ble_eq_true rfl) (Ct_mono h ?_)
        rintro _ s3 ⟨v4, rfl, h⟩
        show X κ 71 [(0, .ref 7), (1, .int x1)] [.int v4] s3
        refine X_istore_n C dX7_faultNow_71 rfl (by decide) (L' := [(1, .int v4), (0, .ref 7)]) rfl ?_
        refine X_goto C dX7_faultNow_72 (tgt := 10) (by decide) ?_
        refine X_loc [1, 0] rfl ?_
        exact h
      · replace h := h.2 c
        refine X_aload_n C dX7_faultNow_39 rfl (j := 0) rfl ?_
        refine X_aload_n C dX7_faultNow_40 rfl (j := 0) rfl ?_
        refine X_getI C sh_7 rfl fw_RX7_227 dX7_faultNow_41 ?_
        refine X_callV C dX7_faultNow_44 pw_RX7_230 (b := 7) (as := [.int (s1.1 7 23)]) (S := []) sh_7 rfl rfl rfl (Nat.le_of_ble_eq_true rfl) (Ct_mono h ?_)
        rintro _ s5 ⟨v6, rfl, h⟩
        show X κ 47 [(0, .ref 7), (1, .int x1)] [.int v6] s5
        refine X_bipush C (v := 45) (by decide) dX7_faultNow_47 ?_
        refine X_icmp_eq C dX7_faultNow_49 (tgt := 57) (by decide) (fun c => ?_) (fun c => ?_)
        · replace h := h.1 c
          refine X_aload_n C dX7_faultNow_57 rfl (j := 0) rfl ?_
          refine X_dup C rfl dX7_faultNow_58 ?_
          refine X_getI C sh_7 rfl fw_RX7_227 dX7_faultNow_59 ?_
          refine X_iconst C (v := 1) (by decide) dX7_faultNow_62 ?_
          refine X_iadd C dX7_faultNow_63 ?_
          refine X_putI C sh_7 rfl fp_RX7_227 dX7_faultNow_64 ?_
          refine X_aload_n C dX7_faultNow_67 rfl (j := 0) rfl ?_
          refine X_callV C dX7_faultNow_68 pw_RX7_242 (b := 7) (as := []) (S := []) sh_7 rfl rfl rfl (Nat.le_of_ble_eq_true rfl) (Ct_mono h ?_)
          rintro _ s7 ⟨v8, rfl, h⟩
          show X κ 71 [(0, .ref 7), (1, .int x1)] [.int v8] s7
          refine X_istore_n C dX7_faultNow_71 rfl (by decide) (L' := [(1, .int v8), (0, .ref 7)]) rfl ?_
          refine X_goto C dX7_faultNow_72 (tgt := 10) (by decide) ?_
          refine X_loc [1, 0] rfl ?_
          exact h
        · replace h := h.2 c
          refine X_aload_n C dX7_faultNow_52 rfl (j := 0) rfl ?_
          refine X_getI C sh_7 rfl fw_RX7_227 dX7_faultNow_53 ?_
          exact X_iret C Z rfl dX7_faultNow_56 h
set_option maxHeartbeats 4000000 in
set_option maxRecDepth 100000 in
theorem eX7_faultNow {d : Nat} {Q : Option Value → xSt → Prop} (st : xSt) (h : ∀ κ : xK, Cx κ M_X7_faultNow (d + 1) → xR κ Q → Ct d M_X7_says [.ref 7] (xup st 7 23 0) (Qi fun v2 s1 => X κ 10 [(0, .ref 7), (1, .int v2)] [] s1)) : Ct (d + 1) M_X7_faultNow [.ref 7] st Q := by
  refine Ct_of (by decide +kernel) (Nat.le_of_ble_eq_true rfl) (fun κ C Z => ?_)
  replace h := h κ C Z
  show X κ 0 [(0, .ref 7)] [] st
  refine X_aload_n C dX7_faultNow_0 rfl (j := 0) rfl ?_
  refine X_iconst C (v := 0) (by decide) dX7_faultNow_1 ?_
  refine X_putI C sh_7 rfl fp_RX7_227 dX7_faultNow_2 ?_
  refine X_aload_n C dX7_faultNow_5 rfl (j := 0) rfl ?_
  refine X_callV C dX7_faultNow_6 pw_RX7_242 (b := 7) (as := []) (S := []) sh_7 rfl rfl rfl (Nat.le_of_ble_eq_true rfl) (Ct_mono h ?_)
  rintro _ s1 ⟨v2, rfl, h⟩
  show X κ 9 [(0, .ref 7)] [.int v2] s1
  refine X_istore_n C dX7_faultNow_9 rfl (by decide) (L' := [(1, .int v2), (0, .ref 7)]) rfl ?_
  refine X_loc [1, 0] rfl ?_
  exact h
set_option maxHeartbeats 4000000 in
set_option maxRecDepth 100000 in
theorem eX7_fault {d : Nat} {Q : Option Value → xSt → Prop} (st : xSt) (h : Ct d M_X7_faultNow [.ref 7] st (Qi fun v2 s1 => Q (some (.int v2)) s1)) : Ct (d + 1) M_X7_fault [.ref 7] st Q := by
  refine Ct_of (by decide +kernel) (Nat.le_of_ble_eq_true rfl) (fun κ C Z => ?_)
  show X κ 0 [(0, .ref 7)] [] st
  refine X_aload_n C dX7_fault_0 rfl (j := 0) rfl ?_
  refine X_callV C dX7_fault_1 pw_RX7_245 (b := 7) (as := []) (S := []) sh_7 rfl rfl rfl (Nat.le_of_ble_eq_true rfl) (Ct_mono h ?_)
  rintro _ s1 ⟨v2, rfl, h⟩
  show X κ 4 [(0, .ref 7)] [.int v2] s1
  exact X_iret C Z rfl dX7_fault_4 h
set_option maxHeartbeats 4000000 in
set_option maxRecDepth 100000 in
theorem bX7_speech_31 {κ : xK} {d : Nat} {Q : Option Value → xSt → Prop} (C : Cx κ M_X7_speech (d + 1)) (Z : xR κ Q) (x1 : Int32) (x2 : Int32) (x3 : Int32) (st : xSt) (h : (((st.1 7 21) ≤ (st.1 7 23) → Q (some (.int x2)) st) ∧ (¬ (st.1 7 21) ≤ (st.1 7 23) → Ct d M_X7_says [.ref 7] st (Qi fun v2 s1 => Ct d M_X7_totalOf [.ref 7, .int x1] s1 (Qi fun v4 s3 => (((s1.1 7 25) ≤ v4 → Ct d M_X7_totalOf [.ref 7, .int x1] s3 (Qi fun v6 s5 => Ct d M_X7_byteAt [.ref 7, .int (s5.1 7 23)] s5 (Qi fun v8 s7 => ((¬ v8 = 45 → X κ 31 [(0, .ref 7), (1, .int x1), (2, .int (x2 + (x3 * (((s3.1 7 24) * v6) + (s5.1 7 25))))), (3, .int 1)] [] (xup s7 7 23 ((s7.1 7 23) + 1))) ∧ (v8 = 45 → X κ 31 [(0, .ref 7), (1, .int x1), (2, .int (x2 + (x3 * (((s3.1 7 24) * v6) + (s5.1 7 25))))), (3, .int ((-1)))] [] (xup s7 7 23 ((s7.1 7 23) + 1))))))) ∧ (¬ (s1.1 7 25) ≤ v4 → Q (some (.int ((-100001)))) s3))))))) : X κ 31 [(0, .ref 7), (1, .int x1), (2, .int x2), (3, .int x3)] [] st := by
  refine X_aload_n C dX7_speech_31 rfl (j := 0) rfl ?_
  refine X_getI C sh_7 rfl fw_RX7_227 dX7_speech_32 ?_
  refine X_aload_n C dX7_speech_35 rfl (j := 0) rfl ?_
  refine X_getI C sh_7 rfl fw_RX7_224 dX7_speech_36 ?_
  refine X_icmp_ge C dX7_speech_39 (tgt := 115) (by decide) (fun c => ?_) (fun c => ?_)
  · replace h := h.1 c
    refine X_iload_n C dX7_speech_115 rfl (j := 2) rfl ?_
    exact X_iret C Z rfl dX7_speech_116 h
  · replace h := h.2 c
    refine X_aload_n C dX7_speech_42 rfl (j := 0) rfl ?_
    refine X_callV C dX7_speech_43 pw_RX7_242 (b := 7) (as := []) (S := []) sh_7 rfl rfl rfl (Nat.le_of_ble_eq_true rfl) (Ct_mono h ?_)
    rintro _ s1 ⟨v2, rfl, h⟩
    show X κ 46 [(0, .ref 7), (1, .int x1), (2, .int x2), (3, .int x3)] [.int v2] s1
    refine X_istore C dX7_speech_46 (by decide) (L' := [(4, .int v2), (0, .ref 7), (1, .int x1), (2, .int x2), (3, .int x3)]) rfl ?_
    refine X_aload_n C dX7_speech_48 rfl (j := 1) rfl ?_
    refine X_getI C sh_7 rfl fw_RX7_239 dX7_speech_49 ?_
    refine X_aload_n C dX7_speech_52 rfl (j := 1) rfl ?_
    refine X_iload_n C dX7_speech_53 rfl (j := 2) rfl ?_
    refine X_callV C dX7_speech_54 pw_RX7_96 (b := 7) (as := [.int x1]) (S := [.int (s1.1 7 25)]) sh_7 rfl rfl rfl (Nat.le_of_ble_eq_true rfl) (Ct_mono h ?_)
    rintro _ s3 ⟨v4, rfl, h⟩
    show X κ 57 [(4, .int v2), (0, .ref 7), (1, .int x1), (2, .int x2), (3, .int x3)] [.int v4, .int (s1.1 7 25)] s3
    refine X_icmp_le C dX7_speech_57 (tgt := 63) (by decide) (fun c => ?_) (fun c => ?_)
    · replace h := h.1 c
      refine X_iload_n C dX7_speech_63 rfl (j := 3) rfl ?_
      refine X_iload_n C dX7_speech_64 rfl (j := 4) rfl ?_
      refine X_aload_n C dX7_speech_65 rfl (j := 1) rfl ?_
      refine X_getI C sh_7 rfl fw_RX7_233 dX7_speech_66 ?_
      refine X_aload_n C dX7_speech_69 rfl (j := 1) rfl ?_
      refine X_iload_n C dX7_speech_70 rfl (j := 2) rfl ?_
      refine X_callV C dX7_speech_71 pw_RX7_96 (b := 7) (as := [.int x1]) (S := [.int (s3.1 7 24), .int x3, .int x2]) sh_7 rfl rfl rfl (Nat.le_of_ble_eq_true rfl) (Ct_mono h ?_)
      rintro _ s5 ⟨v6, rfl, h⟩
      show X κ 74 [(4, .int v2), (0, .ref 7), (1, .int x1), (2, .int x2), (3, .int x3)] [.int v6, .int (s3.1 7 24), .int x3, .int x2] s5
      refine X_imul C dX7_speech_74 ?_
      refine X_aload_n C dX7_speech_75 rfl (j := 1) rfl ?_
      refine X_getI C sh_7 rfl fw_RX7_239 dX7_speech_76 ?_
      refine X_iadd C dX7_speech_79 ?_
      refine X_imul C dX7_speech_80 ?_
      refine X_iadd C dX7_speech_81 ?_
      refine X_istore_n C dX7_speech_82 rfl (by decide) (L' := [(2, .int (x2 + (x3 * (((s3.1 7 24) * v6) + (s5.1 7 25))))), (4, .int v2), (0, .ref 7), (1, .int x1), (3, .int x3)]) rfl ?_
      refine X_aload_n C dX7_speech_83 rfl (j := 2) rfl ?_
      refine X_aload_n C dX7_speech_84 rfl (j := 2) rfl ?_
      refine X_getI C sh_7 rfl fw_RX7_227 dX7_speech_85 ?_
      refine X_callV C dX7_speech_88 pw_RX7_230 (b := 7) (as := [.int (s5.1 7 23)]) (S := []) sh_7 rfl rfl rfl (Nat.le_of_ble_eq_true rfl) (Ct_mono h ?_)
      rintro _ s7 ⟨v8, rfl, h⟩
      show X κ 91 [(2, .int (x2 + (x3 * (((s3.1 7 24) * v6) + (s5.1 7 25))))), (4, .int v2), (0, .ref 7), (1, .int x1), (3, .int x3)] [.int v8] s7
      refine X_bipush C (v := 45) (by decide) dX7_speech_91 ?_
      refine X_icmp_ne C dX7_speech_93 (tgt := 100) (by decide) (fun c => ?_) (fun c => ?_)
      · replace h := h.1 c
        refine X_iconst C (v := 1) (by decide) dX7_speech_100 ?_
        refine X_istore_n C dX7_speech_101 rfl (by decide) (L' := [(3, .int 1), (2, .int (x2 + (x3 * (((s3.1 7 24) * v6) + (s5.1 7 25))))), (4, .int v2), (0, .ref 7), (1, .int x1)]) rfl ?_
        refine X_aload_n C dX7_speech_102 rfl (j := 3) rfl ?_
        refine X_dup C rfl dX7_speech_103 ?_
        refine X_getI C sh_7 rfl fw_RX7_227 dX7_speech_104 ?_
        refine X_iconst C (v := 1) (by decide) dX7_speech_107 ?_
        refine X_iadd C dX7_speech_108 ?_
        refine X_putI C sh_7 rfl fp_RX7_227 dX7_speech_109 ?_
        refine X_goto C dX7_speech_112 (tgt := 31) (by decide) ?_
        refine X_loc [3, 4, 1, 0] rfl ?_
        exact h
      · replace h := h.2 c
        refine X_iconst C (v := (-1)) (by decide) dX7_speech_96 ?_
        refine X_goto C dX7_speech_97 (tgt := 101) (by decide) ?_
        refine X_istore_n C dX7_speech_101 rfl (by decide) (L' := [(3, .int ((-1))), (2, .int (x2 + (x3 * (((s3.1 7 24) * v6) + (s5.1 7 25))))), (4, .int v2), (0, .ref 7), (1, .int x1)]) rfl ?_
        refine X_aload_n C dX7_speech_102 rfl (j := 3) rfl ?_
        refine X_dup C rfl dX7_speech_103 ?_
        refine X_getI C sh_7 rfl fw_RX7_227 dX7_speech_104 ?_
        refine X_iconst C (v := 1) (by decide) dX7_speech_107 ?_
        refine X_iadd C dX7_speech_108 ?_
        refine X_putI C sh_7 rfl fp_RX7_227 dX7_speech_109 ?_
        refine X_goto C dX7_speech_112 (tgt := 31) (by decide) ?_
        refine X_loc [3, 4, 1, 0] rfl ?_
        exact h
    · replace h := h.2 c
      refine X_ldc C (v := (-100001)) u_1468 dX7_speech_60 ?_
      exact X_iret C Z rfl dX7_speech_62 h
set_option maxHeartbeats 4000000 in
set_option maxRecDepth 100000 in
theorem eX7_speech {d : Nat} {Q : Option Value → xSt → Prop} (a1 : Int32) (st : xSt) (h : ∀ κ : xK, Cx κ M_X7_speech (d + 1) → xR κ Q → Ct d M_X7_isCount [.ref 7, .int a1] st (Qi fun v2 s1 => ((¬ v2 = 0 → Ct d M_X7_faultNow [.ref 7] s1 (Qi fun v4 s3 => ((v4 = ((-1)) → X κ 31 [(0, .ref 7), (1, .int a1), (2, .int 0), (3, .int 1)] [] (xup s3 7 23 0)) ∧ (¬ v4 = ((-1)) → Q (some (.int ((-100001)))) s3)))) ∧ (v2 = 0 → Q (some (.int ((-100000)))) s1)))) : Ct (d + 1) M_X7_speech [.ref 7, .int a1] st Q := by
  refine Ct_of (by decide +kernel) (Nat.le_of_ble_eq_true rfl) (fun κ C Z => ?_)
  replace h := h κ C Z
  show X κ 0 [(0, .ref 7), (1, .int a1)] [] st
  refine X_aload_n C dX7_speech_0 rfl (j := 0) rfl ?_
  refine X_iload_n C dX7_speech_1 rfl (j := 1) rfl ?_
  refine X_callV C dX7_speech_2 pw_RX7_93 (b := 7) (as := [.int a1]) (S := []) sh_7 rfl rfl rfl (Nat.le_of_ble_eq_true rfl) (Ct_mono h ?_)
  rintro _ s1 ⟨v2, rfl, h⟩
  show X κ 5 [(0, .ref 7), (1, .int a1)] [.int v2] s1
  refine X_if_ne C dX7_speech_5 (tgt := 11) (by decide) (fun c => ?_) (fun c => ?_)
  · replace h := h.1 c
    refine X_aload_n C dX7_speech_11 rfl (j := 0) rfl ?_
    refine X_callV C dX7_speech_12 pw_RX7_245 (b := 7) (as := []) (S := []) sh_7 rfl rfl rfl (Nat.le_of_ble_eq_true rfl) (Ct_mono h ?_)
    rintro _ s3 ⟨v4, rfl, h⟩
    show X κ 15 [(0, .ref 7), (1, .int a1)] [.int v4] s3
    refine X_iconst C (v := (-1)) (by decide) dX7_speech_15 ?_
    refine X_icmp_eq C dX7_speech_16 (tgt := 22) (by decide) (fun c => ?_) (fun c => ?_)
    · replace h := h.1 c
      refine X_iconst C (v := 0) (by decide) dX7_speech_22 ?_
      refine X_istore_n C dX7_speech_23 rfl (by decide) (L' := [(2, .int 0), (0, .ref 7), (1, .int a1)]) rfl ?_
      refine X_iconst C (v := 1) (by decide) dX7_speech_24 ?_
      refine X_istore_n C dX7_speech_25 rfl (by decide) (L' := [(3, .int 1), (2, .int 0), (0, .ref 7), (1, .int a1)]) rfl ?_
      refine X_aload_n C dX7_speech_26 rfl (j := 2) rfl ?_
      refine X_iconst C (v := 0) (by decide) dX7_speech_27 ?_
      refine X_putI C sh_7 rfl fp_RX7_227 dX7_speech_28 ?_
      refine X_loc [2, 3, 1, 0] rfl ?_
      exact h
    · replace h := h.2 c
      refine X_ldc C (v := (-100001)) u_1468 dX7_speech_19 ?_
      exact X_iret C Z rfl dX7_speech_21 h
  · replace h := h.2 c
    refine X_ldc C (v := (-100000)) u_1342 dX7_speech_8 ?_
    exact X_iret C Z rfl dX7_speech_10 h
set_option maxHeartbeats 4000000 in
set_option maxRecDepth 100000 in
theorem eX7_meets {d : Nat} {Q : Option Value → xSt → Prop} (a1 : Int32) (st : xSt) (h : Q (some (.int (((-10)) - a1))) (xup st 7 31 a1)) : Ct (d) M_X7_meets [.ref 7, .int a1] st Q := by
  refine Ct_of (by decide +kernel) (Nat.le_of_ble_eq_true rfl) (fun κ C Z => ?_)
  show X κ 0 [(0, .ref 7), (1, .int a1)] [] st
  refine X_aload_n C dX7_meets_0 rfl (j := 0) rfl ?_
  refine X_iload_n C dX7_meets_1 rfl (j := 1) rfl ?_
  refine X_putI C sh_7 rfl fp_RX7_249 dX7_meets_2 ?_
  refine X_bipush C (v := (-10)) (by decide) dX7_meets_5 ?_
  refine X_iload_n C dX7_meets_7 rfl (j := 1) rfl ?_
  refine X_isub C dX7_meets_8 ?_
  exact X_iret C Z rfl dX7_meets_9 h
set_option maxHeartbeats 4000000 in
set_option maxRecDepth 100000 in
theorem eX7_isSheet {d : Nat} {Q : Option Value → xSt → Prop} (a0 : Int32) (st : xSt) (h : Ct d M_X7_in [.int a0, .int 0, .int 3] st (Qi fun v2 s1 => (v2 = 0 ∨ v2 = 1) ∧ Q (some (.int v2)) s1)) : Ct (d + 1) M_X7_isSheet [.int a0] st Q := by
  refine Ct_of (by decide +kernel) (Nat.le_of_ble_eq_true rfl) (fun κ C Z => ?_)
  show X κ 0 [(0, .int a0)] [] st
  refine X_iload_n C dX7_isSheet_0 rfl (j := 0) rfl ?_
  refine X_iconst C (v := 0) (by decide) dX7_isSheet_1 ?_
  refine X_iconst C (v := 3) (by decide) dX7_isSheet_2 ?_
  refine X_callS C dX7_isSheet_3 pw_RX7_75 (as := [.int a0, .int 0, .int 3]) (S := []) rfl rfl (Nat.le_of_ble_eq_true rfl) (Ct_mono h ?_)
  rintro _ s1 ⟨v2, rfl, h⟩
  show X κ 6 [(0, .int a0)] [.int v2] s1
  exact X_zret C Z rfl h.1 dX7_isSheet_6 h.2
set_option maxHeartbeats 4000000 in
set_option maxRecDepth 100000 in
theorem bX7_sheet_59 {κ : xK} {d : Nat} {Q : Option Value → xSt → Prop} (C : Cx κ M_X7_sheet (d + 1)) (Z : xR κ Q) (x1 : Int32) (x3 : Int32) (x4 : Int32) (st : xSt) (h : ((60 ≤ x4 → Q (some (.int x3)) st) ∧ (¬ 60 ≤ x4 → vp_in ((60 * x1) + x4) 240 ∧ X κ 59 [(0, .ref 7), (1, .int x1), (3, .int x3), (4, .int (x4 + 1))] [] (xup st 46 ((60 * x1) + x4 : Int32).toNatClampNeg 0)))) : X κ 59 [(0, .ref 7), (1, .int x1), (3, .int x3), (4, .int x4)] [] st := by
  refine X_iload C dX7_sheet_59 (j := 3) rfl ?_
  refine X_bipush C (v := 60) (by decide) dX7_sheet_61 ?_
  refine X_icmp_ge C dX7_sheet_63 (tgt := 85) (by decide) (fun c => ?_) (fun c => ?_)
  · replace h := h.1 c
    refine X_iload_n C dX7_sheet_85 rfl (j := 2) rfl ?_
    exact X_iret C Z rfl dX7_sheet_86 h
  · replace h := h.2 c
    refine X_aload_n C dX7_sheet_66 rfl (j := 0) rfl ?_
    refine X_getR C sh_7 rfl fw_RX7_69 dX7_sheet_67 ?_
    refine X_bipush C (v := 60) (by decide) dX7_sheet_70 ?_
    refine X_iload_n C dX7_sheet_72 rfl (j := 1) rfl ?_
    refine X_imul C dX7_sheet_73 ?_
    refine X_iload C dX7_sheet_74 (j := 3) rfl ?_
    refine X_iadd C dX7_sheet_76 ?_
    refine X_iconst C (v := 0) (by decide) dX7_sheet_77 ?_
    obtain ⟨g1, h⟩ := h
    refine X_iast C sh_46 g1 dX7_sheet_78 ?_
    refine X_iinc C dX7_sheet_79 (j := 3) rfl (v := x4 + 1) rfl (by decide) (L' := [(4, .int (x4 + 1)), (0, .ref 7), (1, .int x1), (3, .int x3)]) rfl ?_
    refine X_goto C dX7_sheet_82 (tgt := 59) (by decide) ?_
    refine X_loc [1, 2, 3, 0] rfl ?_
    exact h
set_option maxHeartbeats 4000000 in
set_option maxRecDepth 100000 in
theorem eX7_sheet {d : Nat} {Q : Option Value → xSt → Prop} (a1 : Int32) (a2 : Int32) (a3 : Int32) (st : xSt) (h : ∀ κ : xK, Cx κ M_X7_sheet (d + 1) → xR κ Q → Ct d M_X7_isSheet [.int a1] st (Qi fun v2 s1 => ((v2 = 0 → Q (some (.int ((-2)))) s1) ∧ (¬ v2 = 0 → Ct d M_X7_in [.int a2, .int 0, .int 2] s1 (Qi fun v4 s3 => ((v4 = 0 → Q (some (.int ((-2)))) s3) ∧ (¬ v4 = 0 → ((a3 ≤ 60 → ((0 ≤ a3 → vp_in a1 4 ∧ vp_in a1 4 ∧ vp_in a1 4 ∧ X κ 59 [(0, .ref 7), (1, .int a1), (3, .int a3), (4, .int 0)] [] (xup (xup (xup s3 43 (a1 : Int32).toNatClampNeg (vp_nar .boolean 1)) 44 (a1 : Int32).toNatClampNeg a2) 45 (a1 : Int32).toNatClampNeg a3)) ∧ (¬ 0 ≤ a3 → Ct d M_X7_meets [.ref 7, .int 5] s3 (Qi fun v9 s8 => Q (some (.int v9)) s8)))) ∧ (¬ a3 ≤ 60 → Q (some (.int ((-2)))) s3))))))))) : Ct (d + 1) M_X7_sheet [.ref 7, .int a1, .int a2, .int a3] st Q := by
  refine Ct_of (by decide +kernel) (Nat.le_of_ble_eq_true rfl) (fun κ C Z => ?_)
  replace h := h κ C Z
  show X κ 0 [(0, .ref 7), (1, .int a1), (2, .int a2), (3, .int a3)] [] st
  refine X_iload_n C dX7_sheet_0 rfl (j := 1) rfl ?_
  refine X_callS C dX7_sheet_1 pw_RX7_82 (as := [.int a1]) (S := []) rfl rfl (Nat.le_of_ble_eq_true rfl) (Ct_mono h ?_)
  rintro _ s1 ⟨v2, rfl, h⟩
  show X κ 4 [(0, .ref 7), (1, .int a1), (2, .int a2), (3, .int a3)] [.int v2] s1
  refine X_if_eq C dX7_sheet_4 (tgt := 22) (by decide) (fun c => ?_) (fun c => ?_)
  · replace h := h.1 c
    refine X_bipush C (v := (-2)) (by decide) dX7_sheet_22 ?_
    exact X_iret C Z rfl dX7_sheet_24 h
  · replace h := h.2 c
    refine X_iload_n C dX7_sheet_7 rfl (j := 2) rfl ?_
    refine X_iconst C (v := 0) (by decide) dX7_sheet_8 ?_
    refine X_iconst C (v := 2) (by decide) dX7_sheet_9 ?_
    refine X_callS C dX7_sheet_10 pw_RX7_75 (as := [.int a2, .int 0, .int 2]) (S := []) rfl rfl (Nat.le_of_ble_eq_true rfl) (Ct_mono h ?_)
    rintro _ s3 ⟨v4, rfl, h⟩
    show X κ 13 [(0, .ref 7), (1, .int a1), (2, .int a2), (3, .int a3)] [.int v4] s3
    refine X_if_eq C dX7_sheet_13 (tgt := 22) (by decide) (fun c => ?_) (fun c => ?_)
    · replace h := h.1 c
      refine X_bipush C (v := (-2)) (by decide) dX7_sheet_22 ?_
      exact X_iret C Z rfl dX7_sheet_24 h
    · replace h := h.2 c
      refine X_iload_n C dX7_sheet_16 rfl (j := 3) rfl ?_
      refine X_bipush C (v := 60) (by decide) dX7_sheet_17 ?_
      refine X_icmp_le C dX7_sheet_19 (tgt := 25) (by decide) (fun c => ?_) (fun c => ?_)
      · replace h := h.1 c
        refine X_iload_n C dX7_sheet_25 rfl (j := 3) rfl ?_
        refine X_if_ge C dX7_sheet_26 (tgt := 35) (by decide) (fun c => ?_) (fun c => ?_)
        · replace h := h.1 c
          refine X_aload_n C dX7_sheet_35 rfl (j := 0) rfl ?_
          refine X_getR C sh_7 rfl fw_RX7_60 dX7_sheet_36 ?_
          refine X_iload_n C dX7_sheet_39 rfl (j := 1) rfl ?_
          refine X_iconst C (v := 1) (by decide) dX7_sheet_40 ?_
          obtain ⟨g5, h⟩ := h
          refine X_zast C sh_43 g5 dX7_sheet_41 ?_
          refine X_aload_n C dX7_sheet_42 rfl (j := 0) rfl ?_
          refine X_getR C sh_7 rfl fw_RX7_63 dX7_sheet_43 ?_
          refine X_iload_n C dX7_sheet_46 rfl (j := 1) rfl ?_
          refine X_iload_n C dX7_sheet_47 rfl (j := 2) rfl ?_
          obtain ⟨g6, h⟩ := h
          refine X_iast C sh_44 g6 dX7_sheet_48 ?_
          refine X_aload_n C dX7_sheet_49 rfl (j := 0) rfl ?_
          refine X_getR C sh_7 rfl fw_RX7_66 dX7_sheet_50 ?_
          refine X_iload_n C dX7_sheet_53 rfl (j := 1) rfl ?_
          refine X_iload_n C dX7_sheet_54 rfl (j := 3) rfl ?_
          obtain ⟨g7, h⟩ := h
          refine X_iast C sh_45 g7 dX7_sheet_55 ?_
          refine X_iconst C (v := 0) (by decide) dX7_sheet_56 ?_
          refine X_istore C dX7_sheet_57 (by decide) (L' := [(4, .int 0), (0, .ref 7), (1, .int a1), (2, .int a2), (3, .int a3)]) rfl ?_
          refine X_loc [1, 2, 4, 0] rfl ?_
          exact h
        · replace h := h.2 c
          refine X_aload_n C dX7_sheet_29 rfl (j := 0) rfl ?_
          refine X_iconst C (v := 5) (by decide) dX7_sheet_30 ?_
          refine X_callV C dX7_sheet_31 pw_RX7_86 (b := 7) (as := [.int 5]) (S := []) sh_7 rfl rfl rfl (Nat.le_of_ble_eq_true rfl) (Ct_mono h ?_)
          rintro _ s8 ⟨v9, rfl, h⟩
          show X κ 34 [(0, .ref 7), (1, .int a1), (2, .int a2), (3, .int a3)] [.int v9] s8
          exact X_iret C Z rfl dX7_sheet_34 h
      · replace h := h.2 c
        refine X_bipush C (v := (-2)) (by decide) dX7_sheet_22 ?_
        exact X_iret C Z rfl dX7_sheet_24 h
set_option maxHeartbeats 4000000 in
set_option maxRecDepth 100000 in
theorem eX7_lose {d : Nat} {Q : Option Value → xSt → Prop} (a1 : Int32) (st : xSt) (h : Ct d M_X7_isSheet [.int a1] st (Qi fun v2 s1 => ((¬ v2 = 0 → vp_in a1 4 ∧ ((¬ (s1.1 43 (a1 : Int32).toNatClampNeg) = 0 → vp_in a1 4 ∧ vp_in a1 4 ∧ Q (some (.int ((xup s1 43 (a1 : Int32).toNatClampNeg (vp_nar .boolean 0)).1 45 (a1 : Int32).toNatClampNeg))) (xup s1 43 (a1 : Int32).toNatClampNeg (vp_nar .boolean 0))) ∧ ((s1.1 43 (a1 : Int32).toNatClampNeg) = 0 → Ct d M_X7_meets [.ref 7, .int 1] s1 (Qi fun v7 s6 => Q (some (.int v7)) s6)))) ∧ (v2 = 0 → Q (some (.int ((-2)))) s1)))) : Ct (d + 1) M_X7_lose [.ref 7, .int a1] st Q := by
  refine Ct_of (by decide +kernel) (Nat.le_of_ble_eq_true rfl) (fun κ C Z => ?_)
  show X κ 0 [(0, .ref 7), (1, .int a1)] [] st
  refine X_iload_n C dX7_lose_0 rfl (j := 1) rfl ?_
  refine X_callS C dX7_lose_1 pw_RX7_82 (as := [.int a1]) (S := []) rfl rfl (Nat.le_of_ble_eq_true rfl) (Ct_mono h ?_)
  rintro _ s1 ⟨v2, rfl, h⟩
  show X κ 4 [(0, .ref 7), (1, .int a1)] [.int v2] s1
  refine X_if_ne C dX7_lose_4 (tgt := 10) (by decide) (fun c => ?_) (fun c => ?_)
  · replace h := h.1 c
    refine X_aload_n C dX7_lose_10 rfl (j := 0) rfl ?_
    refine X_getR C sh_7 rfl fw_RX7_60 dX7_lose_11 ?_
    refine X_iload_n C dX7_lose_14 rfl (j := 1) rfl ?_
    obtain ⟨g3, h⟩ := h
    refine X_zald C sh_43 g3 dX7_lose_15 ?_
    refine X_if_ne C dX7_lose_16 (tgt := 25) (by decide) (fun c => ?_) (fun c => ?_)
    · replace h := h.1 c
      refine X_aload_n C dX7_lose_25 rfl (j := 0) rfl ?_
      refine X_getR C sh_7 rfl fw_RX7_60 dX7_lose_26 ?_
      refine X_iload_n C dX7_lose_29 rfl (j := 1) rfl ?_
      refine X_iconst C (v := 0) (by decide) dX7_lose_30 ?_
      obtain ⟨g4, h⟩ := h
      refine X_zast C sh_43 g4 dX7_lose_31 ?_
      refine X_aload_n C dX7_lose_32 rfl (j := 0) rfl ?_
      refine X_getR C sh_7 rfl fw_RX7_66 dX7_lose_33 ?_
      refine X_iload_n C dX7_lose_36 rfl (j := 1) rfl ?_
      obtain ⟨g5, h⟩ := h
      refine X_iald C sh_45 g5 dX7_lose_37 ?_
      exact X_iret C Z rfl dX7_lose_38 h
    · replace h := h.2 c
      refine X_aload_n C dX7_lose_19 rfl (j := 0) rfl ?_
      refine X_iconst C (v := 1) (by decide) dX7_lose_20 ?_
      refine X_callV C dX7_lose_21 pw_RX7_86 (b := 7) (as := [.int 1]) (S := []) sh_7 rfl rfl rfl (Nat.le_of_ble_eq_true rfl) (Ct_mono h ?_)
      rintro _ s6 ⟨v7, rfl, h⟩
      show X κ 24 [(0, .ref 7), (1, .int a1)] [.int v7] s6
      exact X_iret C Z rfl dX7_lose_24 h
  · replace h := h.2 c
    refine X_bipush C (v := (-2)) (by decide) dX7_lose_7 ?_
    exact X_iret C Z rfl dX7_lose_9 h
set_option maxHeartbeats 4000000 in
set_option maxRecDepth 100000 in
theorem eX7_lacks {d : Nat} {Q : Option Value → xSt → Prop} (a1 : Int32) (a2 : Int32) (a3 : Int32) (st : xSt) (h : vp_in a1 4 ∧ ((¬ (st.1 43 (a1 : Int32).toNatClampNeg) = 0 → vp_in a1 4 ∧ (((st.1 44 (a1 : Int32).toNatClampNeg) = a2 → vp_in a1 4 ∧ Ct d M_X7_in [.int a3, .int 0, .int ((st.1 45 (a1 : Int32).toNatClampNeg) - 1)] st (Qi fun v5 s4 => ((v5 = 0 → Q (some (.int 2)) s4) ∧ (¬ v5 = 0 → Q (some (.int 0)) s4)))) ∧ (¬ (st.1 44 (a1 : Int32).toNatClampNeg) = a2 → Q (some (.int 3)) st))) ∧ ((st.1 43 (a1 : Int32).toNatClampNeg) = 0 → Q (some (.int 1)) st))) : Ct (d + 1) M_X7_lacks [.ref 7, .int a1, .int a2, .int a3] st Q := by
  refine Ct_of (by decide +kernel) (Nat.le_of_ble_eq_true rfl) (fun κ C Z => ?_)
  show X κ 0 [(0, .ref 7), (1, .int a1), (2, .int a2), (3, .int a3)] [] st
  refine X_aload_n C dX7_lacks_0 rfl (j := 0) rfl ?_
  refine X_getR C sh_7 rfl fw_RX7_60 dX7_lacks_1 ?_
  refine X_iload_n C dX7_lacks_4 rfl (j := 1) rfl ?_
  obtain ⟨g1, h⟩ := h
  refine X_zald C sh_43 g1 dX7_lacks_5 ?_
  refine X_if_ne C dX7_lacks_6 (tgt := 13) (by decide) (fun c => ?_) (fun c => ?_)
  · replace h := h.1 c
    refine X_aload_n C dX7_lacks_13 rfl (j := 0) rfl ?_
    refine X_getR C sh_7 rfl fw_RX7_63 dX7_lacks_14 ?_
    refine X_iload_n C dX7_lacks_17 rfl (j := 1) rfl ?_
    obtain ⟨g2, h⟩ := h
    refine X_iald C sh_44 g2 dX7_lacks_18 ?_
    refine X_iload_n C dX7_lacks_19 rfl (j := 2) rfl ?_
    refine X_icmp_eq C dX7_lacks_20 (tgt := 27) (by decide) (fun c => ?_) (fun c => ?_)
    · replace h := h.1 c
      refine X_iload_n C dX7_lacks_27 rfl (j := 3) rfl ?_
      refine X_iconst C (v := 0) (by decide) dX7_lacks_28 ?_
      refine X_aload_n C dX7_lacks_29 rfl (j := 0) rfl ?_
      refine X_getR C sh_7 rfl fw_RX7_66 dX7_lacks_30 ?_
      refine X_iload_n C dX7_lacks_33 rfl (j := 1) rfl ?_
      obtain ⟨g3, h⟩ := h
      refine X_iald C sh_45 g3 dX7_lacks_34 ?_
      refine X_iconst C (v := 1) (by decide) dX7_lacks_35 ?_
      refine X_isub C dX7_lacks_36 ?_
      refine X_callS C dX7_lacks_37 pw_RX7_75 (as := [.int a3, .int 0, .int ((st.1 45 (a1 : Int32).toNatClampNeg) - 1)]) (S := []) rfl rfl (Nat.le_of_ble_eq_true rfl) (Ct_mono h ?_)
      rintro _ s4 ⟨v5, rfl, h⟩
      show X κ 40 [(0, .ref 7), (1, .int a1), (2, .int a2), (3, .int a3)] [.int v5] s4
      refine X_if_eq C dX7_lacks_40 (tgt := 47) (by decide) (fun c => ?_) (fun c => ?_)
      · replace h := h.1 c
        refine X_iconst C (v := 2) (by decide) dX7_lacks_47 ?_
        exact X_iret C Z rfl dX7_lacks_48 h
      · replace h := h.2 c
        refine X_iconst C (v := 0) (by decide) dX7_lacks_43 ?_
        refine X_goto C dX7_lacks_44 (tgt := 48) (by decide) ?_
        exact X_iret C Z rfl dX7_lacks_48 h
    · replace h := h.2 c
      refine X_iconst C (v := 3) (by decide) dX7_lacks_23 ?_
      refine X_goto C dX7_lacks_24 (tgt := 48) (by decide) ?_
      exact X_iret C Z rfl dX7_lacks_48 h
  · replace h := h.2 c
    refine X_iconst C (v := 1) (by decide) dX7_lacks_9 ?_
    refine X_goto C dX7_lacks_10 (tgt := 48) (by decide) ?_
    exact X_iret C Z rfl dX7_lacks_48 h
set_option maxHeartbeats 4000000 in
set_option maxRecDepth 100000 in
theorem eX7_lay {d : Nat} {Q : Option Value → xSt → Prop} (a1 : Int32) (a2 : Int32) (a3 : Int32) (st : xSt) (h : vp_in a1 4 ∧ ((¬ (st.1 44 (a1 : Int32).toNatClampNeg) = 0 → vp_in a1 4 ∧ ((¬ (st.1 44 (a1 : Int32).toNatClampNeg) = 1 → vp_in ((60 * a1) + a2) 240 ∧ Q none (xup st 46 ((60 * a1) + a2 : Int32).toNatClampNeg a3)) ∧ ((st.1 44 (a1 : Int32).toNatClampNeg) = 1 → vp_in ((60 * a1) + a2) 240 ∧ Q none (xup st 46 ((60 * a1) + a2 : Int32).toNatClampNeg ((a3 : Int32).toInt16.toInt32))))) ∧ ((st.1 44 (a1 : Int32).toNatClampNeg) = 0 → vp_in ((60 * a1) + a2) 240 ∧ Q none (xup st 46 ((60 * a1) + a2 : Int32).toNatClampNeg ((a3 : Int32).toInt8.toInt32))))) : Ct (d) M_X7_lay [.ref 7, .int a1, .int a2, .int a3] st Q := by
  refine Ct_of (by decide +kernel) (Nat.le_of_ble_eq_true rfl) (fun κ C Z => ?_)
  show X κ 0 [(0, .ref 7), (1, .int a1), (2, .int a2), (3, .int a3)] [] st
  refine X_aload_n C dX7_lay_0 rfl (j := 0) rfl ?_
  refine X_getR C sh_7 rfl fw_RX7_69 dX7_lay_1 ?_
  refine X_bipush C (v := 60) (by decide) dX7_lay_4 ?_
  refine X_iload_n C dX7_lay_6 rfl (j := 1) rfl ?_
  refine X_imul C dX7_lay_7 ?_
  refine X_iload_n C dX7_lay_8 rfl (j := 2) rfl ?_
  refine X_iadd C dX7_lay_9 ?_
  refine X_aload_n C dX7_lay_10 rfl (j := 0) rfl ?_
  refine X_getR C sh_7 rfl fw_RX7_63 dX7_lay_11 ?_
  refine X_iload_n C dX7_lay_14 rfl (j := 1) rfl ?_
  obtain ⟨g1, h⟩ := h
  refine X_iald C sh_44 g1 dX7_lay_15 ?_
  refine X_if_ne C dX7_lay_16 (tgt := 24) (by decide) (fun c => ?_) (fun c => ?_)
  · replace h := h.1 c
    refine X_aload_n C dX7_lay_24 rfl (j := 0) rfl ?_
    refine X_getR C sh_7 rfl fw_RX7_63 dX7_lay_25 ?_
    refine X_iload_n C dX7_lay_28 rfl (j := 1) rfl ?_
    obtain ⟨g2, h⟩ := h
    refine X_iald C sh_44 g2 dX7_lay_29 ?_
    refine X_iconst C (v := 1) (by decide) dX7_lay_30 ?_
    refine X_icmp_ne C dX7_lay_31 (tgt := 39) (by decide) (fun c => ?_) (fun c => ?_)
    · replace h := h.1 c
      refine X_iload_n C dX7_lay_39 rfl (j := 3) rfl ?_
      obtain ⟨g3, h⟩ := h
      refine X_iast C sh_46 g3 dX7_lay_40 ?_
      exact X_vret C Z rfl dX7_lay_41 h
    · replace h := h.2 c
      refine X_iload_n C dX7_lay_34 rfl (j := 3) rfl ?_
      refine X_i2s C dX7_lay_35 ?_
      refine X_goto C dX7_lay_36 (tgt := 40) (by decide) ?_
      obtain ⟨g4, h⟩ := h
      refine X_iast C sh_46 g4 dX7_lay_40 ?_
      exact X_vret C Z rfl dX7_lay_41 h
  · replace h := h.2 c
    refine X_iload_n C dX7_lay_19 rfl (j := 3) rfl ?_
    refine X_i2b C dX7_lay_20 ?_
    refine X_goto C dX7_lay_21 (tgt := 40) (by decide) ?_
    obtain ⟨g5, h⟩ := h
    refine X_iast C sh_46 g5 dX7_lay_40 ?_
    exact X_vret C Z rfl dX7_lay_41 h
set_option maxHeartbeats 4000000 in
set_option maxRecDepth 100000 in
theorem eX7_put {d : Nat} {Q : Option Value → xSt → Prop} (a1 : Int32) (a2 : Int32) (a3 : Int32) (a4 : Int32) (st : xSt) (h : Ct d M_X7_isSheet [.int a1] st (Qi fun v2 s1 => ((v2 = 0 → Q (some (.int ((-2)))) s1) ∧ (¬ v2 = 0 → Ct d M_X7_in [.int a2, .int 0, .int 2] s1 (Qi fun v4 s3 => ((¬ v4 = 0 → Ct d M_X7_lacks [.ref 7, .int a1, .int a2, .int a3] s3 (Qi fun v6 s5 => ((v6 ≤ 0 → Ct d M_X7_lay [.ref 7, .int a1, .int a3, .int a4] s5 (Qv fun s7 => Q (some (.int 1)) s7)) ∧ (¬ v6 ≤ 0 → Ct d M_X7_meets [.ref 7, .int v6] s5 (Qi fun v9 s8 => Q (some (.int v9)) s8))))) ∧ (v4 = 0 → Q (some (.int ((-2)))) s3))))))) : Ct (d + 1) M_X7_put [.ref 7, .int a1, .int a2, .int a3, .int a4] st Q := by
  refine Ct_of (by decide +kernel) (Nat.le_of_ble_eq_true rfl) (fun κ C Z => ?_)
  show X κ 0 [(0, .ref 7), (1, .int a1), (2, .int a2), (3, .int a3), (4, .int a4)] [] st
  refine X_iload_n C dX7_put_0 rfl (j := 1) rfl ?_
  refine X_callS C dX7_put_1 pw_RX7_82 (as := [.int a1]) (S := []) rfl rfl (Nat.le_of_ble_eq_true rfl) (Ct_mono h ?_)
  rintro _ s1 ⟨v2, rfl, h⟩
  show X κ 4 [(0, .ref 7), (1, .int a1), (2, .int a2), (3, .int a3), (4, .int a4)] [.int v2] s1
  refine X_if_eq C dX7_put_4 (tgt := 16) (by decide) (fun c => ?_) (fun c => ?_)
  · replace h := h.1 c
    refine X_bipush C (v := (-2)) (by decide) dX7_put_16 ?_
    exact X_iret C Z rfl dX7_put_18 h
  · replace h := h.2 c
    refine X_iload_n C dX7_put_7 rfl (j := 2) rfl ?_
    refine X_iconst C (v := 0) (by decide) dX7_put_8 ?_
    refine X_iconst C (v := 2) (by decide) dX7_put_9 ?_
    refine X_callS C dX7_put_10 pw_RX7_75 (as := [.int a2, .int 0, .int 2]) (S := []) rfl rfl (Nat.le_of_ble_eq_true rfl) (Ct_mono h ?_)
    rintro _ s3 ⟨v4, rfl, h⟩
    show X κ 13 [(0, .ref 7), (1, .int a1), (2, .int a2), (3, .int a3), (4, .int a4)] [.int v4] s3
    refine X_if_ne C dX7_put_13 (tgt := 19) (by decide) (fun c => ?_) (fun c => ?_)
    · replace h := h.1 c
      refine X_aload_n C dX7_put_19 rfl (j := 0) rfl ?_
      refine X_iload_n C dX7_put_20 rfl (j := 1) rfl ?_
      refine X_iload_n C dX7_put_21 rfl (j := 2) rfl ?_
      refine X_iload_n C dX7_put_22 rfl (j := 3) rfl ?_
      refine X_callV C dX7_put_23 pw_RX7_252 (b := 7) (as := [.int a1, .int a2, .int a3]) (S := []) sh_7 rfl rfl rfl (Nat.le_of_ble_eq_true rfl) (Ct_mono h ?_)
      rintro _ s5 ⟨v6, rfl, h⟩
      show X κ 26 [(0, .ref 7), (1, .int a1), (2, .int a2), (3, .int a3), (4, .int a4)] [.int v6] s5
      refine X_istore C dX7_put_26 (by decide) (L' := [(5, .int v6), (0, .ref 7), (1, .int a1), (2, .int a2), (3, .int a3), (4, .int a4)]) rfl ?_
      refine X_iload C dX7_put_28 (j := 0) rfl ?_
      refine X_if_le C dX7_put_30 (tgt := 40) (by decide) (fun c => ?_) (fun c => ?_)
      · replace h := h.1 c
        refine X_aload_n C dX7_put_40 rfl (j := 1) rfl ?_
        refine X_iload_n C dX7_put_41 rfl (j := 2) rfl ?_
        refine X_iload_n C dX7_put_42 rfl (j := 4) rfl ?_
        refine X_iload C dX7_put_43 (j := 5) rfl ?_
        refine X_callV C dX7_put_45 pw_RX7_255 (b := 7) (as := [.int a1, .int a3, .int a4]) (S := []) sh_7 rfl rfl rfl (Nat.le_of_ble_eq_true rfl) (Ct_mono h ?_)
        rintro _ s7 ⟨rfl, h⟩
        show X κ 48 [(5, .int v6), (0, .ref 7), (1, .int a1), (2, .int a2), (3, .int a3), (4, .int a4)] [] s7
        refine X_iconst C (v := 1) (by decide) dX7_put_48 ?_
        exact X_iret C Z rfl dX7_put_49 h
      · replace h := h.2 c
        refine X_aload_n C dX7_put_33 rfl (j := 1) rfl ?_
        refine X_iload C dX7_put_34 (j := 0) rfl ?_
        refine X_callV C dX7_put_36 pw_RX7_86 (b := 7) (as := [.int v6]) (S := []) sh_7 rfl rfl rfl (Nat.le_of_ble_eq_true rfl) (Ct_mono h ?_)
        rintro _ s8 ⟨v9, rfl, h⟩
        show X κ 39 [(5, .int v6), (0, .ref 7), (1, .int a1), (2, .int a2), (3, .int a3), (4, .int a4)] [.int v9] s8
        exact X_iret C Z rfl dX7_put_39 h
    · replace h := h.2 c
      refine X_bipush C (v := (-2)) (by decide) dX7_put_16 ?_
      exact X_iret C Z rfl dX7_put_18 h
set_option maxHeartbeats 4000000 in
set_option maxRecDepth 100000 in
theorem eX7_get {d : Nat} {Q : Option Value → xSt → Prop} (a1 : Int32) (a2 : Int32) (a3 : Int32) (st : xSt) (h : Ct d M_X7_isSheet [.int a1] st (Qi fun v2 s1 => ((v2 = 0 → Q (some (.int ((-2147483648)))) s1) ∧ (¬ v2 = 0 → Ct d M_X7_in [.int a2, .int 0, .int 2] s1 (Qi fun v4 s3 => ((¬ v4 = 0 → Ct d M_X7_lacks [.ref 7, .int a1, .int a2, .int a3] s3 (Qi fun v6 s5 => ((v6 ≤ 0 → vp_in ((60 * a1) + a3) 240 ∧ Q (some (.int (s5.1 46 ((60 * a1) + a3 : Int32).toNatClampNeg))) s5) ∧ (¬ v6 ≤ 0 → Q (some (.int ((-2147483648)))) (xup s5 7 31 v6))))) ∧ (v4 = 0 → Q (some (.int ((-2147483648)))) s3))))))) : Ct (d + 1) M_X7_get [.ref 7, .int a1, .int a2, .int a3] st Q := by
  refine Ct_of (by decide +kernel) (Nat.le_of_ble_eq_true rfl) (fun κ C Z => ?_)
  show X κ 0 [(0, .ref 7), (1, .int a1), (2, .int a2), (3, .int a3)] [] st
  refine X_iload_n C dX7_get_0 rfl (j := 1) rfl ?_
  refine X_callS C dX7_get_1 pw_RX7_82 (as := [.int a1]) (S := []) rfl rfl (Nat.le_of_ble_eq_true rfl) (Ct_mono h ?_)
  rintro _ s1 ⟨v2, rfl, h⟩
  show X κ 4 [(0, .ref 7), (1, .int a1), (2, .int a2), (3, .int a3)] [.int v2] s1
  refine X_if_eq C dX7_get_4 (tgt := 16) (by decide) (fun c => ?_) (fun c => ?_)
  · replace h := h.1 c
    refine X_ldcw C (v := (-2147483648)) u_1493 dX7_get_16 ?_
    exact X_iret C Z rfl dX7_get_19 h
  · replace h := h.2 c
    refine X_iload_n C dX7_get_7 rfl (j := 2) rfl ?_
    refine X_iconst C (v := 0) (by decide) dX7_get_8 ?_
    refine X_iconst C (v := 2) (by decide) dX7_get_9 ?_
    refine X_callS C dX7_get_10 pw_RX7_75 (as := [.int a2, .int 0, .int 2]) (S := []) rfl rfl (Nat.le_of_ble_eq_true rfl) (Ct_mono h ?_)
    rintro _ s3 ⟨v4, rfl, h⟩
    show X κ 13 [(0, .ref 7), (1, .int a1), (2, .int a2), (3, .int a3)] [.int v4] s3
    refine X_if_ne C dX7_get_13 (tgt := 20) (by decide) (fun c => ?_) (fun c => ?_)
    · replace h := h.1 c
      refine X_aload_n C dX7_get_20 rfl (j := 0) rfl ?_
      refine X_iload_n C dX7_get_21 rfl (j := 1) rfl ?_
      refine X_iload_n C dX7_get_22 rfl (j := 2) rfl ?_
      refine X_iload_n C dX7_get_23 rfl (j := 3) rfl ?_
      refine X_callV C dX7_get_24 pw_RX7_252 (b := 7) (as := [.int a1, .int a2, .int a3]) (S := []) sh_7 rfl rfl rfl (Nat.le_of_ble_eq_true rfl) (Ct_mono h ?_)
      rintro _ s5 ⟨v6, rfl, h⟩
      show X κ 27 [(0, .ref 7), (1, .int a1), (2, .int a2), (3, .int a3)] [.int v6] s5
      refine X_istore C dX7_get_27 (by decide) (L' := [(4, .int v6), (0, .ref 7), (1, .int a1), (2, .int a2), (3, .int a3)]) rfl ?_
      refine X_iload C dX7_get_29 (j := 0) rfl ?_
      refine X_if_le C dX7_get_31 (tgt := 44) (by decide) (fun c => ?_) (fun c => ?_)
      · replace h := h.1 c
        refine X_aload_n C dX7_get_44 rfl (j := 1) rfl ?_
        refine X_getR C sh_7 rfl fw_RX7_69 dX7_get_45 ?_
        refine X_bipush C (v := 60) (by decide) dX7_get_48 ?_
        refine X_iload_n C dX7_get_50 rfl (j := 2) rfl ?_
        refine X_imul C dX7_get_51 ?_
        refine X_iload_n C dX7_get_52 rfl (j := 4) rfl ?_
        refine X_iadd C dX7_get_53 ?_
        obtain ⟨g7, h⟩ := h
        refine X_iald C sh_46 g7 dX7_get_54 ?_
        exact X_iret C Z rfl dX7_get_55 h
      · replace h := h.2 c
        refine X_aload_n C dX7_get_34 rfl (j := 1) rfl ?_
        refine X_iload C dX7_get_35 (j := 0) rfl ?_
        refine X_putI C sh_7 rfl fp_RX7_249 dX7_get_37 ?_
        refine X_ldcw C (v := (-2147483648)) u_1493 dX7_get_40 ?_
        exact X_iret C Z rfl dX7_get_43 h
    · replace h := h.2 c
      refine X_ldcw C (v := (-2147483648)) u_1493 dX7_get_16 ?_
      exact X_iret C Z rfl dX7_get_19 h
set_option maxHeartbeats 4000000 in
set_option maxRecDepth 100000 in
theorem bX7_copy_120 {κ : xK} {d : Nat} {Q : Option Value → xSt → Prop} (C : Cx κ M_X7_copy (d + 1)) (Z : xR κ Q) (x1 : Int32) (x2 : Int32) (x3 : Int32) (x4 : Int32) (x5 : Int32) (x6 : Int32) (st : xSt) (h : ((x5 ≤ x6 → X κ 157 [(0, .ref 7), (3, .int x3), (4, .int x4), (5, .int x5), (6, .int 0)] [] st) ∧ (¬ x5 ≤ x6 → vp_in (((60 * x1) + x2) + x6) 240 ∧ vp_in x6 60 ∧ X κ 120 [(0, .ref 7), (1, .int x1), (2, .int x2), (3, .int x3), (4, .int x4), (5, .int x5), (6, .int (x6 + 1))] [] (xup st 47 (x6 : Int32).toNatClampNeg (st.1 46 (((60 * x1) + x2) + x6 : Int32).toNatClampNeg))))) : X κ 120 [(0, .ref 7), (1, .int x1), (2, .int x2), (3, .int x3), (4, .int x4), (5, .int x5), (6, .int x6)] [] st := by
  refine X_iload C dX7_copy_120 (j := 6) rfl ?_
  refine X_iload C dX7_copy_122 (j := 5) rfl ?_
  refine X_icmp_ge C dX7_copy_124 (tgt := 154) (by decide) (fun c => ?_) (fun c => ?_)
  · replace h := h.1 c
    refine X_iconst C (v := 0) (by decide) dX7_copy_154 ?_
    refine X_istore C dX7_copy_155 (by decide) (L' := [(6, .int 0), (0, .ref 7), (1, .int x1), (2, .int x2), (3, .int x3), (4, .int x4), (5, .int x5)]) rfl ?_
    refine X_loc [1, 4, 5, 6, 0] rfl ?_
    exact h
  · replace h := h.2 c
    refine X_aload_n C dX7_copy_127 rfl (j := 0) rfl ?_
    refine X_getR C sh_7 rfl fw_RX7_72 dX7_copy_128 ?_
    refine X_iload C dX7_copy_131 (j := 6) rfl ?_
    refine X_aload_n C dX7_copy_133 rfl (j := 0) rfl ?_
    refine X_getR C sh_7 rfl fw_RX7_69 dX7_copy_134 ?_
    refine X_bipush C (v := 60) (by decide) dX7_copy_137 ?_
    refine X_iload_n C dX7_copy_139 rfl (j := 1) rfl ?_
    refine X_imul C dX7_copy_140 ?_
    refine X_iload_n C dX7_copy_141 rfl (j := 2) rfl ?_
    refine X_iadd C dX7_copy_142 ?_
    refine X_iload C dX7_copy_143 (j := 6) rfl ?_
    refine X_iadd C dX7_copy_145 ?_
    obtain ⟨g1, h⟩ := h
    refine X_iald C sh_46 g1 dX7_copy_146 ?_
    obtain ⟨g2, h⟩ := h
    refine X_iast C sh_47 g2 dX7_copy_147 ?_
    refine X_iinc C dX7_copy_148 (j := 6) rfl (v := x6 + 1) rfl (by decide) (L' := [(6, .int (x6 + 1)), (0, .ref 7), (1, .int x1), (2, .int x2), (3, .int x3), (4, .int x4), (5, .int x5)]) rfl ?_
    refine X_goto C dX7_copy_151 (tgt := 120) (by decide) ?_
    refine X_loc [1, 2, 3, 4, 5, 6, 0] rfl ?_
    exact h
set_option maxHeartbeats 4000000 in
set_option maxRecDepth 100000 in
theorem bX7_copy_157 {κ : xK} {d : Nat} {Q : Option Value → xSt → Prop} (C : Cx κ M_X7_copy (d + 1)) (Z : xR κ Q) (x3 : Int32) (x4 : Int32) (x5 : Int32) (x6 : Int32) (st : xSt) (h : ((x5 ≤ x6 → Q (some (.int 1)) st) ∧ (¬ x5 ≤ x6 → vp_in x6 60 ∧ vp_in (((60 * x3) + x4) + x6) 240 ∧ X κ 157 [(0, .ref 7), (3, .int x3), (4, .int x4), (5, .int x5), (6, .int (x6 + 1))] [] (xup st 46 (((60 * x3) + x4) + x6 : Int32).toNatClampNeg (st.1 47 (x6 : Int32).toNatClampNeg))))) : X κ 157 [(0, .ref 7), (3, .int x3), (4, .int x4), (5, .int x5), (6, .int x6)] [] st := by
  refine X_iload C dX7_copy_157 (j := 4) rfl ?_
  refine X_iload C dX7_copy_159 (j := 3) rfl ?_
  refine X_icmp_ge C dX7_copy_161 (tgt := 192) (by decide) (fun c => ?_) (fun c => ?_)
  · replace h := h.1 c
    refine X_iconst C (v := 1) (by decide) dX7_copy_192 ?_
    exact X_iret C Z rfl dX7_copy_193 h
  · replace h := h.2 c
    refine X_aload_n C dX7_copy_164 rfl (j := 0) rfl ?_
    refine X_getR C sh_7 rfl fw_RX7_69 dX7_copy_165 ?_
    refine X_bipush C (v := 60) (by decide) dX7_copy_168 ?_
    refine X_iload_n C dX7_copy_170 rfl (j := 1) rfl ?_
    refine X_imul C dX7_copy_171 ?_
    refine X_iload C dX7_copy_172 (j := 2) rfl ?_
    refine X_iadd C dX7_copy_174 ?_
    refine X_iload C dX7_copy_175 (j := 4) rfl ?_
    refine X_iadd C dX7_copy_177 ?_
    refine X_aload_n C dX7_copy_178 rfl (j := 0) rfl ?_
    refine X_getR C sh_7 rfl fw_RX7_72 dX7_copy_179 ?_
    refine X_iload C dX7_copy_182 (j := 4) rfl ?_
    obtain ⟨g1, h⟩ := h
    refine X_iald C sh_47 g1 dX7_copy_184 ?_
    obtain ⟨g2, h⟩ := h
    refine X_iast C sh_46 g2 dX7_copy_185 ?_
    refine X_iinc C dX7_copy_186 (j := 4) rfl (v := x6 + 1) rfl (by decide) (L' := [(6, .int (x6 + 1)), (0, .ref 7), (3, .int x3), (4, .int x4), (5, .int x5)]) rfl ?_
    refine X_goto C dX7_copy_189 (tgt := 157) (by decide) ?_
    refine X_loc [1, 2, 3, 4, 0] rfl ?_
    exact h
set_option maxHeartbeats 4000000 in
set_option maxRecDepth 100000 in
theorem eX7_copy {d : Nat} {Q : Option Value → xSt → Prop} (a1 : Int32) (a2 : Int32) (a3 : Int32) (a4 : Int32) (a5 : Int32) (st : xSt) (h : ∀ κ : xK, Cx κ M_X7_copy (d + 1) → xR κ Q → Ct d M_X7_isSheet [.int a1] st (Qi fun v2 s1 => ((v2 = 0 → Q (some (.int ((-2)))) s1) ∧ (¬ v2 = 0 → Ct d M_X7_isSheet [.int a3] s1 (Qi fun v4 s3 => ((¬ v4 = 0 → vp_in a1 4 ∧ (((s3.1 43 (a1 : Int32).toNatClampNeg) = 0 → Ct d M_X7_meets [.ref 7, .int 1] s3 (Qi fun v7 s6 => Q (some (.int v7)) s6)) ∧ (¬ (s3.1 43 (a1 : Int32).toNatClampNeg) = 0 → vp_in a3 4 ∧ ((¬ (s3.1 43 (a3 : Int32).toNatClampNeg) = 0 → vp_in a1 4 ∧ vp_in a3 4 ∧ (((s3.1 44 (a1 : Int32).toNatClampNeg) = (s3.1 44 (a3 : Int32).toNatClampNeg) → ((a2 < 0 → Ct d M_X7_meets [.ref 7, .int 2] s3 (Qi fun v12 s11 => Q (some (.int v12)) s11)) ∧ (¬ a2 < 0 → ((a4 < 0 → Ct d M_X7_meets [.ref 7, .int 2] s3 (Qi fun v14 s13 => Q (some (.int v14)) s13)) ∧ (¬ a4 < 0 → ((a5 < 0 → Ct d M_X7_meets [.ref 7, .int 2] s3 (Qi fun v16 s15 => Q (some (.int v16)) s15)) ∧ (¬ a5 < 0 → vp_in a1 4 ∧ ((0 < (lg_cmp (((a2 : Int32).toInt64) + ((a5 : Int32).toInt64)) ((s3.1 45 (a1 : Int32).toNatClampNeg : Int32).toInt64)) → Ct d M_X7_meets [.ref 7, .int 2] s3 (Qi fun v19 s18 => Q (some (.int v19)) s18)) ∧ (¬ 0 < (lg_cmp (((a2 : Int32).toInt64) + ((a5 : Int32).toInt64)) ((s3.1 45 (a1 : Int32).toNatClampNeg : Int32).toInt64)) → vp_in a3 4 ∧ (((lg_cmp (((a4 : Int32).toInt64) + ((a5 : Int32).toInt64)) ((s3.1 45 (a3 : Int32).toNatClampNeg : Int32).toInt64)) ≤ 0 → X κ 120 [(0, .ref 7), (1, .int a1), (2, .int a2), (3, .int a3), (4, .int a4), (5, .int a5), (6, .int 0)] [] s3) ∧ (¬ (lg_cmp (((a4 : Int32).toInt64) + ((a5 : Int32).toInt64)) ((s3.1 45 (a3 : Int32).toNatClampNeg : Int32).toInt64)) ≤ 0 → Ct d M_X7_meets [.ref 7, .int 2] s3 (Qi fun v22 s21 => Q (some (.int v22)) s21)))))))))))) ∧ (¬ (s3.1 44 (a1 : Int32).toNatClampNeg) = (s3.1 44 (a3 : Int32).toNatClampNeg) → Ct d M_X7_meets [.ref 7, .int 4] s3 (Qi fun v24 s23 => Q (some (.int v24)) s23)))) ∧ ((s3.1 43 (a3 : Int32).toNatClampNeg) = 0 → Ct d M_X7_meets [.ref 7, .int 1] s3 (Qi fun v26 s25 => Q (some (.int v26)) s25)))))) ∧ (v4 = 0 → Q (some (.int ((-2)))) s3))))))) : Ct (d + 1) M_X7_copy [.ref 7, .int a1, .int a2, .int a3, .int a4, .int a5] st Q := by
  refine Ct_of (by decide +kernel) (Nat.le_of_ble_eq_true rfl) (fun κ C Z => ?_)
  replace h := h κ C Z
  show X κ 0 [(0, .ref 7), (1, .int a1), (2, .int a2), (3, .int a3), (4, .int a4), (5, .int a5)] [] st
  refine X_iload_n C dX7_copy_0 rfl (j := 1) rfl ?_
  refine X_callS C dX7_copy_1 pw_RX7_82 (as := [.int a1]) (S := []) rfl rfl (Nat.le_of_ble_eq_true rfl) (Ct_mono h ?_)
  rintro _ s1 ⟨v2, rfl, h⟩
  show X κ 4 [(0, .ref 7), (1, .int a1), (2, .int a2), (3, .int a3), (4, .int a4), (5, .int a5)] [.int v2] s1
  refine X_if_eq C dX7_copy_4 (tgt := 14) (by decide) (fun c => ?_) (fun c => ?_)
  · replace h := h.1 c
    refine X_bipush C (v := (-2)) (by decide) dX7_copy_14 ?_
    exact X_iret C Z rfl dX7_copy_16 h
  · replace h := h.2 c
    refine X_iload_n C dX7_copy_7 rfl (j := 3) rfl ?_
    refine X_callS C dX7_copy_8 pw_RX7_82 (as := [.int a3]) (S := []) rfl rfl (Nat.le_of_ble_eq_true rfl) (Ct_mono h ?_)
    rintro _ s3 ⟨v4, rfl, h⟩
    show X κ 11 [(0, .ref 7), (1, .int a1), (2, .int a2), (3, .int a3), (4, .int a4), (5, .int a5)] [.int v4] s3
    refine X_if_ne C dX7_copy_11 (tgt := 17) (by decide) (fun c => ?_) (fun c => ?_)
    · replace h := h.1 c
      refine X_aload_n C dX7_copy_17 rfl (j := 0) rfl ?_
      refine X_getR C sh_7 rfl fw_RX7_60 dX7_copy_18 ?_
      refine X_iload_n C dX7_copy_21 rfl (j := 1) rfl ?_
      obtain ⟨g5, h⟩ := h
      refine X_zald C sh_43 g5 dX7_copy_22 ?_
      refine X_if_eq C dX7_copy_23 (tgt := 35) (by decide) (fun c => ?_) (fun c => ?_)
      · replace h := h.1 c
        refine X_aload_n C dX7_copy_35 rfl (j := 0) rfl ?_
        refine X_iconst C (v := 1) (by decide) dX7_copy_36 ?_
        refine X_callV C dX7_copy_37 pw_RX7_86 (b := 7) (as := [.int 1]) (S := []) sh_7 rfl rfl rfl (Nat.le_of_ble_eq_true rfl) (Ct_mono h ?_)
        rintro _ s6 ⟨v7, rfl, h⟩
        show X κ 40 [(0, .ref 7), (1, .int a1), (2, .int a2), (3, .int a3), (4, .int a4), (5, .int a5)] [.int v7] s6
        exact X_iret C Z rfl dX7_copy_40 h
      · replace h := h.2 c
        refine X_aload_n C dX7_copy_26 rfl (j := 0) rfl ?_
        refine X_getR C sh_7 rfl fw_RX7_60 dX7_copy_27 ?_
        refine X_iload_n C dX7_copy_30 rfl (j := 3) rfl ?_
        obtain ⟨g8, h⟩ := h
        refine X_zald C sh_43 g8 dX7_copy_31 ?_
        refine X_if_ne C dX7_copy_32 (tgt := 41) (by decide) (fun c => ?_) (fun c => ?_)
        · replace h := h.1 c
          refine X_aload_n C dX7_copy_41 rfl (j := 0) rfl ?_
          refine X_getR C sh_7 rfl fw_RX7_63 dX7_copy_42 ?_
          refine X_iload_n C dX7_copy_45 rfl (j := 1) rfl ?_
          obtain ⟨g9, h⟩ := h
          refine X_iald C sh_44 g9 dX7_copy_46 ?_
          refine X_aload_n C dX7_copy_47 rfl (j := 0) rfl ?_
          refine X_getR C sh_7 rfl fw_RX7_63 dX7_copy_48 ?_
          refine X_iload_n C dX7_copy_51 rfl (j := 3) rfl ?_
          obtain ⟨g10, h⟩ := h
          refine X_iald C sh_44 g10 dX7_copy_52 ?_
          refine X_icmp_eq C dX7_copy_53 (tgt := 62) (by decide) (fun c => ?_) (fun c => ?_)
          · replace h := h.1 c
            refine X_iload_n C dX7_copy_62 rfl (j := 2) rfl ?_
            refine X_if_lt C dX7_copy_63 (tgt := 111) (by decide) (fun c => ?_) (fun c => ?_)
            · replace h := h.1 c
              refine X_aload_n C dX7_copy_111 rfl (j := 0) rfl ?_
              refine X_iconst C (v := 2) (by decide) dX7_copy_112 ?_
              refine X_callV C dX7_copy_113 pw_RX7_86 (b := 7) (as := [.int 2]) (S := []) sh_7 rfl rfl rfl (Nat.le_of_ble_eq_true rfl) (Ct_mono h ?_)
              rintro _ s11 ⟨v12, rfl, h⟩
              show X κ 116 [(0, .ref 7), (1, .int a1), (2, .int a2), (3, .int a3), (4, .int a4), (5, .int a5)] [.int v12] s11
              exact X_iret C Z rfl dX7_copy_116 h
            · replace h := h.2 c
              refine X_iload C dX7_copy_66 (j := 4) rfl ?_
              refine X_if_lt C dX7_copy_68 (tgt := 111) (by decide) (fun c => ?_) (fun c => ?_)
              · replace h := h.1 c
                refine X_aload_n C dX7_copy_111 rfl (j := 0) rfl ?_
                refine X_iconst C (v := 2) (by decide) dX7_copy_112 ?_
                refine X_callV C dX7_copy_113 pw_RX7_86 (b := 7) (as := [.int 2]) (S := []) sh_7 rfl rfl rfl (Nat.le_of_ble_eq_true rfl) (Ct_mono h ?_)
                rintro _ s13 ⟨v14, rfl, h⟩
                show X κ 116 [(0, .ref 7), (1, .int a1), (2, .int a2), (3, .int a3), (4, .int a4), (5, .int a5)] [.int v14] s13
                exact X_iret C Z rfl dX7_copy_116 h
              · replace h := h.2 c
                refine X_iload C dX7_copy_71 (j := 5) rfl ?_
                refine X_if_lt C dX7_copy_73 (tgt := 111) (by decide) (fun c => ?_) (fun c => ?_)
                · replace h := h.1 c
                  refine X_aload_n C dX7_copy_111 rfl (j := 0) rfl ?_
                  refine X_iconst C (v := 2) (by decide) dX7_copy_112 ?_
                  refine X_callV C dX7_copy_113 pw_RX7_86 (b := 7) (as := [.int 2]) (S := []) sh_7 rfl rfl rfl (Nat.le_of_ble_eq_true rfl) (Ct_mono h ?_)
                  rintro _ s15 ⟨v16, rfl, h⟩
                  show X κ 116 [(0, .ref 7), (1, .int a1), (2, .int a2), (3, .int a3), (4, .int a4), (5, .int a5)] [.int v16] s15
                  exact X_iret C Z rfl dX7_copy_116 h
                · replace h := h.2 c
                  refine X_iload_n C dX7_copy_76 rfl (j := 2) rfl ?_
                  refine X_i2l C dX7_copy_77 ?_
                  refine X_iload C dX7_copy_78 (j := 5) rfl ?_
                  refine X_i2l C dX7_copy_80 ?_
                  refine X_ladd C dX7_copy_81 ?_
                  refine X_aload_n C dX7_copy_82 rfl (j := 0) rfl ?_
                  refine X_getR C sh_7 rfl fw_RX7_66 dX7_copy_83 ?_
                  refine X_iload_n C dX7_copy_86 rfl (j := 1) rfl ?_
                  obtain ⟨g17, h⟩ := h
                  refine X_iald C sh_45 g17 dX7_copy_87 ?_
                  refine X_i2l C dX7_copy_88 ?_
                  refine X_lcmp C dX7_copy_89 ?_
                  refine X_if_gt C dX7_copy_90 (tgt := 111) (by decide) (fun c => ?_) (fun c => ?_)
                  · replace h := h.1 c
                    refine X_aload_n C dX7_copy_111 rfl (j := 0) rfl ?_
                    refine X_iconst C (v := 2) (by decide) dX7_copy_112 ?_
                    refine X_callV C dX7_copy_113 pw_RX7_86 (b := 7) (as := [.int 2]) (S := []) sh_7 rfl rfl rfl (Nat.le_of_ble_eq_true rfl) (Ct_mono h ?_)
                    rintro _ s18 ⟨v19, rfl, h⟩
                    show X κ 116 [(0, .ref 7), (1, .int a1), (2, .int a2), (3, .int a3), (4, .int a4), (5, .int a5)] [.int v19] s18
                    exact X_iret C Z rfl dX7_copy_116 h
                  · replace h := h.2 c
                    refine X_iload C dX7_copy_93 (j := 4) rfl ?_
                    refine X_i2l C dX7_copy_95 ?_
                    refine X_iload C dX7_copy_96 (j := 5) rfl ?_
                    refine X_i2l C dX7_copy_98 ?_
                    refine X_ladd C dX7_copy_99 ?_
                    refine X_aload_n C dX7_copy_100 rfl (j := 0) rfl ?_
                    refine X_getR C sh_7 rfl fw_RX7_66 dX7_copy_101 ?_
                    refine X_iload_n C dX7_copy_104 rfl (j := 3) rfl ?_
                    obtain ⟨g20, h⟩ := h
                    refine X_iald C sh_45 g20 dX7_copy_105 ?_
                    refine X_i2l C dX7_copy_106 ?_
                    refine X_lcmp C dX7_copy_107 ?_
                    refine X_if_le C dX7_copy_108 (tgt := 117) (by decide) (fun c => ?_) (fun c => ?_)
                    · replace h := h.1 c
                      refine X_iconst C (v := 0) (by decide) dX7_copy_117 ?_
                      refine X_istore C dX7_copy_118 (by decide) (L' := [(6, .int 0), (0, .ref 7), (1, .int a1), (2, .int a2), (3, .int a3), (4, .int a4), (5, .int a5)]) rfl ?_
                      refine X_loc [1, 2, 3, 4, 5, 6, 0] rfl ?_
                      exact h
                    · replace h := h.2 c
                      refine X_aload_n C dX7_copy_111 rfl (j := 0) rfl ?_
                      refine X_iconst C (v := 2) (by decide) dX7_copy_112 ?_
                      refine X_callV C dX7_copy_113 pw_RX7_86 (b := 7) (as := [.int 2]) (S := []) sh_7 rfl rfl rfl (Nat.le_of_ble_eq_true rfl) (Ct_mono h ?_)
                      rintro _ s21 ⟨v22, rfl, h⟩
                      show X κ 116 [(0, .ref 7), (1, .int a1), (2, .int a2), (3, .int a3), (4, .int a4), (5, .int a5)] [.int v22] s21
                      exact X_iret C Z rfl dX7_copy_116 h
          · replace h := h.2 c
            refine X_aload_n C dX7_copy_56 rfl (j := 0) rfl ?_
            refine X_iconst C (v := 4) (by decide) dX7_copy_57 ?_
            refine X_callV C dX7_copy_58 pw_RX7_86 (b := 7) (as := [.int 4]) (S := []) sh_7 rfl rfl rfl (Nat.le_of_ble_eq_true rfl) (Ct_mono h ?_)
            rintro _ s23 ⟨v24, rfl, h⟩
            show X κ 61 [(0, .ref 7), (1, .int a1), (2, .int a2), (3, .int a3), (4, .int a4), (5, .int a5)] [.int v24] s23
            exact X_iret C Z rfl dX7_copy_61 h
        · replace h := h.2 c
          refine X_aload_n C dX7_copy_35 rfl (j := 0) rfl ?_
          refine X_iconst C (v := 1) (by decide) dX7_copy_36 ?_
          refine X_callV C dX7_copy_37 pw_RX7_86 (b := 7) (as := [.int 1]) (S := []) sh_7 rfl rfl rfl (Nat.le_of_ble_eq_true rfl) (Ct_mono h ?_)
          rintro _ s25 ⟨v26, rfl, h⟩
          show X κ 40 [(0, .ref 7), (1, .int a1), (2, .int a2), (3, .int a3), (4, .int a4), (5, .int a5)] [.int v26] s25
          exact X_iret C Z rfl dX7_copy_40 h
    · replace h := h.2 c
      refine X_bipush C (v := (-2)) (by decide) dX7_copy_14 ?_
      exact X_iret C Z rfl dX7_copy_16 h
set_option maxHeartbeats 4000000 in
set_option maxRecDepth 100000 in
theorem bX7_write_57 {κ : xK} {d : Nat} {Q : Option Value → xSt → Prop} (C : Cx κ M_X7_write (d + 1)) (Z : xR κ Q) (x1 : Int32) (x2 : Int32) (x3 : Int32) (x4 : Int32) (x5 : Int32) (st : xSt) (h : vp_in x1 4 ∧ (((st.1 45 (x1 : Int32).toNatClampNeg) ≤ x5 → Q (some (.int x5)) st) ∧ (¬ (st.1 45 (x1 : Int32).toNatClampNeg) ≤ x5 → ((400 < (x3 + (x5 * x4)) → Q (some (.int x5)) st) ∧ (¬ 400 < (x3 + (x5 * x4)) → Ct d M_X7_placeOf [.ref 7, .int x2, .int (x3 + (x5 * x4))] st (Qi fun v3 s2 => Ct d M_X7_wordOf [.ref 7, .int x2, .int v3] s2 (Qi fun v5 s4 => Ct d M_X7_lay [.ref 7, .int x1, .int x5, .int v5] s4 (Qv fun s6 => X κ 57 [(0, .ref 7), (1, .int x1), (2, .int x2), (3, .int x3), (4, .int x4), (5, .int (x5 + 1))] [] s6)))))))) : X κ 57 [(0, .ref 7), (1, .int x1), (2, .int x2), (3, .int x3), (4, .int x4), (5, .int x5)] [] st := by
  refine X_iload C dX7_write_57 (j := 5) rfl ?_
  refine X_aload_n C dX7_write_59 rfl (j := 0) rfl ?_
  refine X_getR C sh_7 rfl fw_RX7_66 dX7_write_60 ?_
  refine X_iload_n C dX7_write_63 rfl (j := 1) rfl ?_
  obtain ⟨g1, h⟩ := h
  refine X_iald C sh_45 g1 dX7_write_64 ?_
  refine X_icmp_ge C dX7_write_65 (tgt := 111) (by decide) (fun c => ?_) (fun c => ?_)
  · replace h := h.1 c
    refine X_iload C dX7_write_111 (j := 5) rfl ?_
    exact X_iret C Z rfl dX7_write_113 h
  · replace h := h.2 c
    refine X_iload_n C dX7_write_68 rfl (j := 3) rfl ?_
    refine X_iload C dX7_write_69 (j := 5) rfl ?_
    refine X_iload C dX7_write_71 (j := 4) rfl ?_
    refine X_imul C dX7_write_73 ?_
    refine X_iadd C dX7_write_74 ?_
    refine X_sipush C (v := 400) (by decide) dX7_write_75 ?_
    refine X_icmp_gt C dX7_write_78 (tgt := 111) (by decide) (fun c => ?_) (fun c => ?_)
    · replace h := h.1 c
      refine X_iload C dX7_write_111 (j := 5) rfl ?_
      exact X_iret C Z rfl dX7_write_113 h
    · replace h := h.2 c
      refine X_aload_n C dX7_write_81 rfl (j := 0) rfl ?_
      refine X_iload_n C dX7_write_82 rfl (j := 1) rfl ?_
      refine X_iload C dX7_write_83 (j := 5) rfl ?_
      refine X_aload_n C dX7_write_85 rfl (j := 0) rfl ?_
      refine X_iload_n C dX7_write_86 rfl (j := 2) rfl ?_
      refine X_aload_n C dX7_write_87 rfl (j := 0) rfl ?_
      refine X_iload_n C dX7_write_88 rfl (j := 2) rfl ?_
      refine X_iload_n C dX7_write_89 rfl (j := 3) rfl ?_
      refine X_iload C dX7_write_90 (j := 5) rfl ?_
      refine X_iload C dX7_write_92 (j := 4) rfl ?_
      refine X_imul C dX7_write_94 ?_
      refine X_iadd C dX7_write_95 ?_
      refine X_callV C dX7_write_96 pw_RX7_115 (b := 7) (as := [.int x2, .int (x3 + (x5 * x4))]) (S := [.int x2, .ref 7, .int x5, .int x1, .ref 7]) sh_7 rfl rfl rfl (Nat.le_of_ble_eq_true rfl) (Ct_mono h ?_)
      rintro _ s2 ⟨v3, rfl, h⟩
      show X κ 99 [(0, .ref 7), (1, .int x1), (2, .int x2), (3, .int x3), (4, .int x4), (5, .int x5)] [.int v3, .int x2, .ref 7, .int x5, .int x1, .ref 7] s2
      refine X_callV C dX7_write_99 pw_RX7_106 (b := 7) (as := [.int x2, .int v3]) (S := [.int x5, .int x1, .ref 7]) sh_7 rfl rfl rfl (Nat.le_of_ble_eq_true rfl) (Ct_mono h ?_)
      rintro _ s4 ⟨v5, rfl, h⟩
      show X κ 102 [(0, .ref 7), (1, .int x1), (2, .int x2), (3, .int x3), (4, .int x4), (5, .int x5)] [.int v5, .int x5, .int x1, .ref 7] s4
      refine X_callV C dX7_write_102 pw_RX7_255 (b := 7) (as := [.int x1, .int x5, .int v5]) (S := []) sh_7 rfl rfl rfl (Nat.le_of_ble_eq_true rfl) (Ct_mono h ?_)
      rintro _ s6 ⟨rfl, h⟩
      show X κ 105 [(0, .ref 7), (1, .int x1), (2, .int x2), (3, .int x3), (4, .int x4), (5, .int x5)] [] s6
      refine X_iinc C dX7_write_105 (j := 5) rfl (v := x5 + 1) rfl (by decide) (L' := [(5, .int (x5 + 1)), (0, .ref 7), (1, .int x1), (2, .int x2), (3, .int x3), (4, .int x4)]) rfl ?_
      refine X_goto C dX7_write_108 (tgt := 57) (by decide) ?_
      refine X_loc [1, 2, 3, 4, 5, 0] rfl ?_
      exact h
set_option maxHeartbeats 4000000 in
set_option maxRecDepth 100000 in
theorem eX7_write {d : Nat} {Q : Option Value → xSt → Prop} (a1 : Int32) (a2 : Int32) (a3 : Int32) (a4 : Int32) (st : xSt) (h : ∀ κ : xK, Cx κ M_X7_write (d + 1) → xR κ Q → Ct d M_X7_isSheet [.int a1] st (Qi fun v2 s1 => ((v2 = 0 → Q (some (.int ((-2)))) s1) ∧ (¬ v2 = 0 → Ct d M_X7_isCount [.ref 7, .int a2] s1 (Qi fun v4 s3 => ((v4 = 0 → Q (some (.int ((-2)))) s3) ∧ (¬ v4 = 0 → Ct d M_X7_in [.int a3, .int 1, .int 99] s3 (Qi fun v6 s5 => ((v6 = 0 → Q (some (.int ((-2)))) s5) ∧ (¬ v6 = 0 → Ct d M_X7_in [.int a4, .int 1, .int 20] s5 (Qi fun v8 s7 => ((¬ v8 = 0 → vp_in a1 4 ∧ ((¬ (s7.1 43 (a1 : Int32).toNatClampNeg) = 0 → X κ 57 [(0, .ref 7), (1, .int a1), (2, .int a2), (3, .int a3), (4, .int a4), (5, .int 0)] [] s7) ∧ ((s7.1 43 (a1 : Int32).toNatClampNeg) = 0 → Ct d M_X7_meets [.ref 7, .int 1] s7 (Qi fun v11 s10 => Q (some (.int v11)) s10)))) ∧ (v8 = 0 → Q (some (.int ((-2)))) s7))))))))))))) : Ct (d + 1) M_X7_write [.ref 7, .int a1, .int a2, .int a3, .int a4] st Q := by
  refine Ct_of (by decide +kernel) (Nat.le_of_ble_eq_true rfl) (fun κ C Z => ?_)
  replace h := h κ C Z
  show X κ 0 [(0, .ref 7), (1, .int a1), (2, .int a2), (3, .int a3), (4, .int a4)] [] st
  refine X_iload_n C dX7_write_0 rfl (j := 1) rfl ?_
  refine X_callS C dX7_write_1 pw_RX7_82 (as := [.int a1]) (S := []) rfl rfl (Nat.le_of_ble_eq_true rfl) (Ct_mono h ?_)
  rintro _ s1 ⟨v2, rfl, h⟩
  show X κ 4 [(0, .ref 7), (1, .int a1), (2, .int a2), (3, .int a3), (4, .int a4)] [.int v2] s1
  refine X_if_eq C dX7_write_4 (tgt := 36) (by decide) (fun c => ?_) (fun c => ?_)
  · replace h := h.1 c
    refine X_bipush C (v := (-2)) (by decide) dX7_write_36 ?_
    exact X_iret C Z rfl dX7_write_38 h
  · replace h := h.2 c
    refine X_aload_n C dX7_write_7 rfl (j := 0) rfl ?_
    refine X_iload_n C dX7_write_8 rfl (j := 2) rfl ?_
    refine X_callV C dX7_write_9 pw_RX7_93 (b := 7) (as := [.int a2]) (S := []) sh_7 rfl rfl rfl (Nat.le_of_ble_eq_true rfl) (Ct_mono h ?_)
    rintro _ s3 ⟨v4, rfl, h⟩
    show X κ 12 [(0, .ref 7), (1, .int a1), (2, .int a2), (3, .int a3), (4, .int a4)] [.int v4] s3
    refine X_if_eq C dX7_write_12 (tgt := 36) (by decide) (fun c => ?_) (fun c => ?_)
    · replace h := h.1 c
      refine X_bipush C (v := (-2)) (by decide) dX7_write_36 ?_
      exact X_iret C Z rfl dX7_write_38 h
    · replace h := h.2 c
      refine X_iload_n C dX7_write_15 rfl (j := 3) rfl ?_
      refine X_iconst C (v := 1) (by decide) dX7_write_16 ?_
      refine X_bipush C (v := 99) (by decide) dX7_write_17 ?_
      refine X_callS C dX7_write_19 pw_RX7_75 (as := [.int a3, .int 1, .int 99]) (S := []) rfl rfl (Nat.le_of_ble_eq_true rfl) (Ct_mono h ?_)
      rintro _ s5 ⟨v6, rfl, h⟩
      show X κ 22 [(0, .ref 7), (1, .int a1), (2, .int a2), (3, .int a3), (4, .int a4)] [.int v6] s5
      refine X_if_eq C dX7_write_22 (tgt := 36) (by decide) (fun c => ?_) (fun c => ?_)
      · replace h := h.1 c
        refine X_bipush C (v := (-2)) (by decide) dX7_write_36 ?_
        exact X_iret C Z rfl dX7_write_38 h
      · replace h := h.2 c
        refine X_iload C dX7_write_25 (j := 4) rfl ?_
        refine X_iconst C (v := 1) (by decide) dX7_write_27 ?_
        refine X_bipush C (v := 20) (by decide) dX7_write_28 ?_
        refine X_callS C dX7_write_30 pw_RX7_75 (as := [.int a4, .int 1, .int 20]) (S := []) rfl rfl (Nat.le_of_ble_eq_true rfl) (Ct_mono h ?_)
        rintro _ s7 ⟨v8, rfl, h⟩
        show X κ 33 [(0, .ref 7), (1, .int a1), (2, .int a2), (3, .int a3), (4, .int a4)] [.int v8] s7
        refine X_if_ne C dX7_write_33 (tgt := 39) (by decide) (fun c => ?_) (fun c => ?_)
        · replace h := h.1 c
          refine X_aload_n C dX7_write_39 rfl (j := 0) rfl ?_
          refine X_getR C sh_7 rfl fw_RX7_60 dX7_write_40 ?_
          refine X_iload_n C dX7_write_43 rfl (j := 1) rfl ?_
          obtain ⟨g9, h⟩ := h
          refine X_zald C sh_43 g9 dX7_write_44 ?_
          refine X_if_ne C dX7_write_45 (tgt := 54) (by decide) (fun c => ?_) (fun c => ?_)
          · replace h := h.1 c
            refine X_iconst C (v := 0) (by decide) dX7_write_54 ?_
            refine X_istore C dX7_write_55 (by decide) (L' := [(5, .int 0), (0, .ref 7), (1, .int a1), (2, .int a2), (3, .int a3), (4, .int a4)]) rfl ?_
            refine X_loc [1, 2, 3, 4, 5, 0] rfl ?_
            exact h
          · replace h := h.2 c
            refine X_aload_n C dX7_write_48 rfl (j := 0) rfl ?_
            refine X_iconst C (v := 1) (by decide) dX7_write_49 ?_
            refine X_callV C dX7_write_50 pw_RX7_86 (b := 7) (as := [.int 1]) (S := []) sh_7 rfl rfl rfl (Nat.le_of_ble_eq_true rfl) (Ct_mono h ?_)
            rintro _ s10 ⟨v11, rfl, h⟩
            show X κ 53 [(0, .ref 7), (1, .int a1), (2, .int a2), (3, .int a3), (4, .int a4)] [.int v11] s10
            exact X_iret C Z rfl dX7_write_53 h
        · replace h := h.2 c
          refine X_bipush C (v := (-2)) (by decide) dX7_write_36 ?_
          exact X_iret C Z rfl dX7_write_38 h
set_option maxHeartbeats 4000000 in
set_option maxRecDepth 100000 in
theorem bX7_count_84 {κ : xK} {d : Nat} {Q : Option Value → xSt → Prop} (C : Cx κ M_X7_count (d + 1)) (Z : xR κ Q) (x2 : Int32) (x3 : Int32) (st : xSt) (h : (((st.1 7 10) ≤ x3 → Q (some (.int x2)) st) ∧ (¬ (st.1 7 10) ≤ x3 → X κ 95 [(0, .ref 7), (2, .int x2), (3, .int x3), (4, .int 0)] [] st))) : X κ 84 [(0, .ref 7), (2, .int x2), (3, .int x3)] [] st := by
  refine X_iload_n C dX7_count_84 rfl (j := 2) rfl ?_
  refine X_aload_n C dX7_count_85 rfl (j := 0) rfl ?_
  refine X_getI C sh_7 rfl fw_RX7_157 dX7_count_86 ?_
  refine X_icmp_ge C dX7_count_89 (tgt := 126) (by decide) (fun c => ?_) (fun c => ?_)
  · replace h := h.1 c
    refine X_iload_n C dX7_count_126 rfl (j := 1) rfl ?_
    exact X_iret C Z rfl dX7_count_127 h
  · replace h := h.2 c
    refine X_iconst C (v := 0) (by decide) dX7_count_92 ?_
    refine X_istore C dX7_count_93 (by decide) (L' := [(4, .int 0), (0, .ref 7), (2, .int x2), (3, .int x3)]) rfl ?_
    refine X_loc [1, 2, 3, 0] rfl ?_
    exact h
set_option maxHeartbeats 4000000 in
set_option maxRecDepth 100000 in
theorem bX7_count_95 {κ : xK} {d : Nat} {Q : Option Value → xSt → Prop} (C : Cx κ M_X7_count (d + 1)) (Z : xR κ Q) (x2 : Int32) (x3 : Int32) (x4 : Int32) (st : xSt) (h : (((st.1 7 10) ≤ x4 → X κ 84 [(0, .ref 7), (2, .int x2), (3, .int (x3 + 1))] [] st) ∧ (¬ (st.1 7 10) ≤ x4 → Ct d M_X7_owedBy [.ref 7, .int x3, .int x4] st (Qi fun v2 s1 => X κ 95 [(0, .ref 7), (2, .int (x2 + v2)), (3, .int x3), (4, .int (x4 + 1))] [] s1)))) : X κ 95 [(0, .ref 7), (2, .int x2), (3, .int x3), (4, .int x4)] [] st := by
  refine X_iload C dX7_count_95 (j := 3) rfl ?_
  refine X_aload_n C dX7_count_97 rfl (j := 0) rfl ?_
  refine X_getI C sh_7 rfl fw_RX7_157 dX7_count_98 ?_
  refine X_icmp_ge C dX7_count_101 (tgt := 120) (by decide) (fun c => ?_) (fun c => ?_)
  · replace h := h.1 c
    refine X_iinc C dX7_count_120 (j := 2) rfl (v := x3 + 1) rfl (by decide) (L' := [(3, .int (x3 + 1)), (0, .ref 7), (2, .int x2), (4, .int x4)]) rfl ?_
    refine X_goto C dX7_count_123 (tgt := 84) (by decide) ?_
    refine X_loc [1, 2, 0] rfl ?_
    exact h
  · replace h := h.2 c
    refine X_iload_n C dX7_count_104 rfl (j := 1) rfl ?_
    refine X_aload_n C dX7_count_105 rfl (j := 0) rfl ?_
    refine X_iload_n C dX7_count_106 rfl (j := 2) rfl ?_
    refine X_iload C dX7_count_107 (j := 3) rfl ?_
    refine X_callV C dX7_count_109 pw_RX7_167 (b := 7) (as := [.int x3, .int x4]) (S := [.int x2]) sh_7 rfl rfl rfl (Nat.le_of_ble_eq_true rfl) (Ct_mono h ?_)
    rintro _ s1 ⟨v2, rfl, h⟩
    show X κ 112 [(0, .ref 7), (2, .int x2), (3, .int x3), (4, .int x4)] [.int v2, .int x2] s1
    refine X_iadd C dX7_count_112 ?_
    refine X_istore_n C dX7_count_113 rfl (by decide) (L' := [(2, .int (x2 + v2)), (0, .ref 7), (3, .int x3), (4, .int x4)]) rfl ?_
    refine X_iinc C dX7_count_114 (j := 3) rfl (v := x4 + 1) rfl (by decide) (L' := [(4, .int (x4 + 1)), (2, .int (x2 + v2)), (0, .ref 7), (3, .int x3)]) rfl ?_
    refine X_goto C dX7_count_117 (tgt := 95) (by decide) ?_
    refine X_loc [2, 1, 3, 0] rfl ?_
    exact h
set_option maxHeartbeats 4000000 in
set_option maxRecDepth 100000 in
theorem bX7_count_130 {κ : xK} {d : Nat} {Q : Option Value → xSt → Prop} (C : Cx κ M_X7_count (d + 1)) (Z : xR κ Q) (x2 : Int32) (x3 : Int32) (st : xSt) (h : ((4 ≤ x3 → Q (some (.int x2)) st) ∧ (¬ 4 ≤ x3 → vp_in x3 4 ∧ (((st.1 43 (x3 : Int32).toNatClampNeg) = 0 → X κ 130 [(0, .ref 7), (2, .int (x2 + 0)), (3, .int (x3 + 1))] [] st) ∧ (¬ (st.1 43 (x3 : Int32).toNatClampNeg) = 0 → X κ 130 [(0, .ref 7), (2, .int (x2 + 1)), (3, .int (x3 + 1))] [] st))))) : X κ 130 [(0, .ref 7), (2, .int x2), (3, .int x3)] [] st := by
  refine X_iload_n C dX7_count_130 rfl (j := 2) rfl ?_
  refine X_iconst C (v := 4) (by decide) dX7_count_131 ?_
  refine X_icmp_ge C dX7_count_132 (tgt := 158) (by decide) (fun c => ?_) (fun c => ?_)
  · replace h := h.1 c
    refine X_iload_n C dX7_count_158 rfl (j := 1) rfl ?_
    exact X_iret C Z rfl dX7_count_159 h
  · replace h := h.2 c
    refine X_iload_n C dX7_count_135 rfl (j := 1) rfl ?_
    refine X_aload_n C dX7_count_136 rfl (j := 0) rfl ?_
    refine X_getR C sh_7 rfl fw_RX7_60 dX7_count_137 ?_
    refine X_iload_n C dX7_count_140 rfl (j := 2) rfl ?_
    obtain ⟨g1, h⟩ := h
    refine X_zald C sh_43 g1 dX7_count_141 ?_
    refine X_if_eq C dX7_count_142 (tgt := 149) (by decide) (fun c => ?_) (fun c => ?_)
    · replace h := h.1 c
      refine X_iconst C (v := 0) (by decide) dX7_count_149 ?_
      refine X_iadd C dX7_count_150 ?_
      refine X_istore_n C dX7_count_151 rfl (by decide) (L' := [(2, .int (x2 + 0)), (0, .ref 7), (3, .int x3)]) rfl ?_
      refine X_iinc C dX7_count_152 (j := 2) rfl (v := x3 + 1) rfl (by decide) (L' := [(3, .int (x3 + 1)), (2, .int (x2 + 0)), (0, .ref 7)]) rfl ?_
      refine X_goto C dX7_count_155 (tgt := 130) (by decide) ?_
      refine X_loc [2, 1, 0] rfl ?_
      exact h
    · replace h := h.2 c
      refine X_iconst C (v := 1) (by decide) dX7_count_145 ?_
      refine X_goto C dX7_count_146 (tgt := 150) (by decide) ?_
      refine X_iadd C dX7_count_150 ?_
      refine X_istore_n C dX7_count_151 rfl (by decide) (L' := [(2, .int (x2 + 1)), (0, .ref 7), (3, .int x3)]) rfl ?_
      refine X_iinc C dX7_count_152 (j := 2) rfl (v := x3 + 1) rfl (by decide) (L' := [(3, .int (x3 + 1)), (2, .int (x2 + 1)), (0, .ref 7)]) rfl ?_
      refine X_goto C dX7_count_155 (tgt := 130) (by decide) ?_
      refine X_loc [2, 1, 0] rfl ?_
      exact h
set_option maxHeartbeats 4000000 in
set_option maxRecDepth 100000 in
theorem eX7_count {d : Nat} {Q : Option Value → xSt → Prop} (a1 : Int32) (st : xSt) (h : ∀ κ : xK, Cx κ M_X7_count (d + 1) → xR κ Q → (((a1 : Int32).toInt < 0 ∨ 8 < (a1 : Int32).toInt → Q (some (.int ((-2)))) st) ∧ ((a1 : Int32).toInt = 0 → Q (some (.int (st.1 7 0))) st) ∧ ((a1 : Int32).toInt = 1 → Q (some (.int (st.1 7 6))) st) ∧ ((a1 : Int32).toInt = 2 → Q (some (.int (st.1 7 5))) st) ∧ ((a1 : Int32).toInt = 3 → Q (some (.int (st.1 7 10))) st) ∧ ((a1 : Int32).toInt = 4 → Q (some (.int (st.1 7 14))) st) ∧ ((a1 : Int32).toInt = 5 → Q (some (.int (st.1 7 21))) st) ∧ ((a1 : Int32).toInt = 6 → X κ 84 [(0, .ref 7), (2, .int 0), (3, .int 0)] [] st) ∧ ((a1 : Int32).toInt = 7 → X κ 130 [(0, .ref 7), (2, .int 0), (3, .int 0)] [] st) ∧ ((a1 : Int32).toInt = 8 → Q (some (.int (st.1 7 31))) st))) : Ct (d + 1) M_X7_count [.ref 7, .int a1] st Q := by
  refine Ct_of (by decide +kernel) (Nat.le_of_ble_eq_true rfl) (fun κ C Z => ?_)
  replace h := h κ C Z
  show X κ 0 [(0, .ref 7), (1, .int a1)] [] st
  refine X_iconst C (v := 0) (by decide) dX7_count_0 ?_
  refine X_istore_n C dX7_count_1 rfl (by decide) (L' := [(2, .int 0), (0, .ref 7), (1, .int a1)]) rfl ?_
  refine X_iload_n C dX7_count_2 rfl (j := 2) rfl ?_
  have hc : ((a1 : Int32).toInt < 0 ∨ 8 < (a1 : Int32).toInt) ∨ (a1 : Int32).toInt = 0 ∨ (a1 : Int32).toInt = 1 ∨ (a1 : Int32).toInt = 2 ∨ (a1 : Int32).toInt = 3 ∨ (a1 : Int32).toInt = 4 ∨ (a1 : Int32).toInt = 5 ∨ (a1 : Int32).toInt = 6 ∨ (a1 : Int32).toInt = 7 ∨ (a1 : Int32).toInt = 8 := by omega
  rcases hc with c | c | c | c | c | c | c | c | c | c
  · replace h := h.1 c
    refine X_tableOut C dX7_count_3 c (tgt := 165) (by decide) ?_
    refine X_bipush C (v := (-2)) (by decide) dX7_count_165 ?_
    exact X_iret C Z rfl dX7_count_167 h
  · replace h := h.2.1 c
    refine X_tableIn C dX7_count_3 (by omega) (by omega) (off := 49) (by rw [c]; rfl) (tgt := 52) (by decide) ?_
    refine X_aload_n C dX7_count_52 rfl (j := 1) rfl ?_
    refine X_getI C sh_7 rfl fw_RX7_79 dX7_count_53 ?_
    exact X_iret C Z rfl dX7_count_56 h
  · replace h := h.2.2.1 c
    refine X_tableIn C dX7_count_3 (by omega) (by omega) (off := 54) (by rw [c]; rfl) (tgt := 57) (by decide) ?_
    refine X_aload_n C dX7_count_57 rfl (j := 1) rfl ?_
    refine X_getI C sh_7 rfl fw_RX7_126 dX7_count_58 ?_
    exact X_iret C Z rfl dX7_count_61 h
  · replace h := h.2.2.2.1 c
    refine X_tableIn C dX7_count_3 (by omega) (by omega) (off := 59) (by rw [c]; rfl) (tgt := 62) (by decide) ?_
    refine X_aload_n C dX7_count_62 rfl (j := 1) rfl ?_
    refine X_getI C sh_7 rfl fw_RX7_23 dX7_count_63 ?_
    exact X_iret C Z rfl dX7_count_66 h
  · replace h := h.2.2.2.2.1 c
    refine X_tableIn C dX7_count_3 (by omega) (by omega) (off := 64) (by rw [c]; rfl) (tgt := 67) (by decide) ?_
    refine X_aload_n C dX7_count_67 rfl (j := 1) rfl ?_
    refine X_getI C sh_7 rfl fw_RX7_157 dX7_count_68 ?_
    exact X_iret C Z rfl dX7_count_71 h
  · replace h := h.2.2.2.2.2.1 c
    refine X_tableIn C dX7_count_3 (by omega) (by omega) (off := 69) (by rw [c]; rfl) (tgt := 72) (by decide) ?_
    refine X_aload_n C dX7_count_72 rfl (j := 1) rfl ?_
    refine X_getI C sh_7 rfl fw_RX7_180 dX7_count_73 ?_
    exact X_iret C Z rfl dX7_count_76 h
  · replace h := h.2.2.2.2.2.2.1 c
    refine X_tableIn C dX7_count_3 (by omega) (by omega) (off := 74) (by rw [c]; rfl) (tgt := 77) (by decide) ?_
    refine X_aload_n C dX7_count_77 rfl (j := 1) rfl ?_
    refine X_getI C sh_7 rfl fw_RX7_224 dX7_count_78 ?_
    exact X_iret C Z rfl dX7_count_81 h
  · replace h := h.2.2.2.2.2.2.2.1 c
    refine X_tableIn C dX7_count_3 (by omega) (by omega) (off := 79) (by rw [c]; rfl) (tgt := 82) (by decide) ?_
    refine X_iconst C (v := 0) (by decide) dX7_count_82 ?_
    refine X_istore_n C dX7_count_83 rfl (by decide) (L' := [(3, .int 0), (2, .int 0), (0, .ref 7), (1, .int a1)]) rfl ?_
    refine X_loc [2, 1, 0] rfl ?_
    exact h
  · replace h := h.2.2.2.2.2.2.2.2.1 c
    refine X_tableIn C dX7_count_3 (by omega) (by omega) (off := 125) (by rw [c]; rfl) (tgt := 128) (by decide) ?_
    refine X_iconst C (v := 0) (by decide) dX7_count_128 ?_
    refine X_istore_n C dX7_count_129 rfl (by decide) (L' := [(3, .int 0), (2, .int 0), (0, .ref 7), (1, .int a1)]) rfl ?_
    refine X_loc [2, 1, 0] rfl ?_
    exact h
  · replace h := h.2.2.2.2.2.2.2.2.2 c
    refine X_tableIn C dX7_count_3 (by omega) (by omega) (off := 157) (by rw [c]; rfl) (tgt := 160) (by decide) ?_
    refine X_aload_n C dX7_count_160 rfl (j := 1) rfl ?_
    refine X_getI C sh_7 rfl fw_RX7_249 dX7_count_161 ?_
    exact X_iret C Z rfl dX7_count_164 h
set_option maxHeartbeats 4000000 in
set_option maxRecDepth 100000 in
theorem bX7_digest_6 {κ : xK} {d : Nat} {Q : Option Value → xSt → Prop} (C : Cx κ M_X7_digest (d + 1)) (Z : xR κ Q) (x1 : Int64) (x3 : Int32) (st : xSt) (h : ((8 ≤ x3 → X κ 33 [(0, .ref 7), (1, .long x1), (3, .int 0)] [] st) ∧ (¬ 8 ≤ x3 → Ct d M_X7_count [.ref 7, .int x3] st (Qi fun v2 s1 => X κ 6 [(0, .ref 7), (1, .long ((31 * x1) + ((v2 : Int32).toInt64))), (3, .int (x3 + 1))] [] s1)))) : X κ 6 [(0, .ref 7), (1, .long x1), (3, .int x3)] [] st := by
  refine X_iload_n C dX7_digest_6 rfl (j := 2) rfl ?_
  refine X_bipush C (v := 8) (by decide) dX7_digest_7 ?_
  refine X_icmp_ge C dX7_digest_9 (tgt := 31) (by decide) (fun c => ?_) (fun c => ?_)
  · replace h := h.1 c
    refine X_iconst C (v := 0) (by decide) dX7_digest_31 ?_
    refine X_istore_n C dX7_digest_32 rfl (by decide) (L' := [(3, .int 0), (0, .ref 7), (1, .long x1)]) rfl ?_
    refine X_loc [1, 2, 0] rfl ?_
    exact h
  · replace h := h.2 c
    refine X_ldc2 C (v := 31) u_1511 dX7_digest_12 ?_
    refine X_lload_n C dX7_digest_15 rfl (j := 1) rfl ?_
    refine X_lmul C dX7_digest_16 ?_
    refine X_aload_n C dX7_digest_17 rfl (j := 0) rfl ?_
    refine X_iload_n C dX7_digest_18 rfl (j := 2) rfl ?_
    refine X_callV C dX7_digest_19 pw_RX7_263 (b := 7) (as := [.int x3]) (S := [.long (31 * x1)]) sh_7 rfl rfl rfl (Nat.le_of_ble_eq_true rfl) (Ct_mono h ?_)
    rintro _ s1 ⟨v2, rfl, h⟩
    show X κ 22 [(0, .ref 7), (1, .long x1), (3, .int x3)] [.int v2, .long (31 * x1)] s1
    refine X_i2l C dX7_digest_22 ?_
    refine X_ladd C dX7_digest_23 ?_
    refine X_lstore_n C dX7_digest_24 rfl (by decide) (L' := [(1, .long ((31 * x1) + ((v2 : Int32).toInt64))), (0, .ref 7), (3, .int x3)]) rfl ?_
    refine X_iinc C dX7_digest_25 (j := 2) rfl (v := x3 + 1) rfl (by decide) (L' := [(3, .int (x3 + 1)), (1, .long ((31 * x1) + ((v2 : Int32).toInt64))), (0, .ref 7)]) rfl ?_
    refine X_goto C dX7_digest_28 (tgt := 6) (by decide) ?_
    refine X_loc [2, 1, 0] rfl ?_
    exact h
set_option maxHeartbeats 4000000 in
set_option maxRecDepth 100000 in
theorem bX7_digest_33 {κ : xK} {d : Nat} {Q : Option Value → xSt → Prop} (C : Cx κ M_X7_digest (d + 1)) (Z : xR κ Q) (x1 : Int64) (x3 : Int32) (st : xSt) (h : (((st.1 7 0) ≤ x3 → Ct d M_X7_solutionsNow [.ref 7] st (Qi fun v2 s1 => X κ 125 [(0, .ref 7), (1, .long ((31 * x1) + ((v2 : Int32).toInt64))), (3, .int 0)] [] s1)) ∧ (¬ (st.1 7 0) ≤ x3 → X κ 44 [(0, .ref 7), (1, .long x1), (3, .int x3), (4, .int 0)] [] st))) : X κ 33 [(0, .ref 7), (1, .long x1), (3, .int x3)] [] st := by
  refine X_iload_n C dX7_digest_33 rfl (j := 2) rfl ?_
  refine X_aload_n C dX7_digest_34 rfl (j := 0) rfl ?_
  refine X_getI C sh_7 rfl fw_RX7_79 dX7_digest_35 ?_
  refine X_icmp_ge C dX7_digest_38 (tgt := 111) (by decide) (fun c => ?_) (fun c => ?_)
  · replace h := h.1 c
    refine X_ldc2 C (v := 31) u_1511 dX7_digest_111 ?_
    refine X_lload_n C dX7_digest_114 rfl (j := 1) rfl ?_
    refine X_lmul C dX7_digest_115 ?_
    refine X_aload_n C dX7_digest_116 rfl (j := 0) rfl ?_
    refine X_callV C dX7_digest_117 pw_RX7_147 (b := 7) (as := []) (S := [.long (31 * x1)]) sh_7 rfl rfl rfl (Nat.le_of_ble_eq_true rfl) (Ct_mono h ?_)
    rintro _ s1 ⟨v2, rfl, h⟩
    show X κ 120 [(0, .ref 7), (1, .long x1), (3, .int x3)] [.int v2, .long (31 * x1)] s1
    refine X_i2l C dX7_digest_120 ?_
    refine X_ladd C dX7_digest_121 ?_
    refine X_lstore_n C dX7_digest_122 rfl (by decide) (L' := [(1, .long ((31 * x1) + ((v2 : Int32).toInt64))), (0, .ref 7), (3, .int x3)]) rfl ?_
    refine X_iconst C (v := 0) (by decide) dX7_digest_123 ?_
    refine X_istore_n C dX7_digest_124 rfl (by decide) (L' := [(3, .int 0), (1, .long ((31 * x1) + ((v2 : Int32).toInt64))), (0, .ref 7)]) rfl ?_
    refine X_loc [2, 1, 0] rfl ?_
    exact h
  · replace h := h.2 c
    refine X_iconst C (v := 0) (by decide) dX7_digest_41 ?_
    refine X_istore C dX7_digest_42 (by decide) (L' := [(4, .int 0), (0, .ref 7), (1, .long x1), (3, .int x3)]) rfl ?_
    refine X_loc [1, 2, 3, 0] rfl ?_
    exact h
set_option maxHeartbeats 4000000 in
set_option maxRecDepth 100000 in
theorem bX7_digest_44 {κ : xK} {d : Nat} {Q : Option Value → xSt → Prop} (C : Cx κ M_X7_digest (d + 1)) (Z : xR κ Q) (x1 : Int64) (x3 : Int32) (x4 : Int32) (st : xSt) (h : ((4 ≤ x4 → X κ 74 [(0, .ref 7), (1, .long x1), (3, .int x3), (4, .int 1)] [] st) ∧ (¬ 4 ≤ x4 → Ct d M_X7_aboutOf [.ref 7, .int x3, .int x4] st (Qi fun v2 s1 => X κ 44 [(0, .ref 7), (1, .long ((31 * x1) + ((v2 : Int32).toInt64))), (3, .int x3), (4, .int (x4 + 1))] [] s1)))) : X κ 44 [(0, .ref 7), (1, .long x1), (3, .int x3), (4, .int x4)] [] st := by
  refine X_iload C dX7_digest_44 (j := 3) rfl ?_
  refine X_iconst C (v := 4) (by decide) dX7_digest_46 ?_
  refine X_icmp_ge C dX7_digest_47 (tgt := 71) (by decide) (fun c => ?_) (fun c => ?_)
  · replace h := h.1 c
    refine X_iconst C (v := 1) (by decide) dX7_digest_71 ?_
    refine X_istore C dX7_digest_72 (by decide) (L' := [(4, .int 1), (0, .ref 7), (1, .long x1), (3, .int x3)]) rfl ?_
    refine X_loc [1, 2, 3, 0] rfl ?_
    exact h
  · replace h := h.2 c
    refine X_ldc2 C (v := 31) u_1511 dX7_digest_50 ?_
    refine X_lload_n C dX7_digest_53 rfl (j := 1) rfl ?_
    refine X_lmul C dX7_digest_54 ?_
    refine X_aload_n C dX7_digest_55 rfl (j := 0) rfl ?_
    refine X_iload_n C dX7_digest_56 rfl (j := 2) rfl ?_
    refine X_iload C dX7_digest_57 (j := 3) rfl ?_
    refine X_callV C dX7_digest_59 pw_RX7_99 (b := 7) (as := [.int x3, .int x4]) (S := [.long (31 * x1)]) sh_7 rfl rfl rfl (Nat.le_of_ble_eq_true rfl) (Ct_mono h ?_)
    rintro _ s1 ⟨v2, rfl, h⟩
    show X κ 62 [(0, .ref 7), (1, .long x1), (3, .int x3), (4, .int x4)] [.int v2, .long (31 * x1)] s1
    refine X_i2l C dX7_digest_62 ?_
    refine X_ladd C dX7_digest_63 ?_
    refine X_lstore_n C dX7_digest_64 rfl (by decide) (L' := [(1, .long ((31 * x1) + ((v2 : Int32).toInt64))), (0, .ref 7), (3, .int x3), (4, .int x4)]) rfl ?_
    refine X_iinc C dX7_digest_65 (j := 3) rfl (v := x4 + 1) rfl (by decide) (L' := [(4, .int (x4 + 1)), (1, .long ((31 * x1) + ((v2 : Int32).toInt64))), (0, .ref 7), (3, .int x3)]) rfl ?_
    refine X_goto C dX7_digest_68 (tgt := 44) (by decide) ?_
    refine X_loc [2, 1, 3, 0] rfl ?_
    exact h
set_option maxHeartbeats 4000000 in
set_option maxRecDepth 100000 in
theorem bX7_digest_74 {κ : xK} {d : Nat} {Q : Option Value → xSt → Prop} (C : Cx κ M_X7_digest (d + 1)) (Z : xR κ Q) (x1 : Int64) (x3 : Int32) (x4 : Int32) (st : xSt) (h : Ct d M_X7_totalOf [.ref 7, .int x3] st (Qi fun v2 s1 => ((v2 < x4 → X κ 33 [(0, .ref 7), (1, .long x1), (3, .int (x3 + 1))] [] s1) ∧ (¬ v2 < x4 → Ct d M_X7_wordOf [.ref 7, .int x3, .int x4] s1 (Qi fun v4 s3 => X κ 74 [(0, .ref 7), (1, .long ((31 * x1) + ((v4 : Int32).toInt64))), (3, .int x3), (4, .int (x4 + 1))] [] s3))))) : X κ 74 [(0, .ref 7), (1, .long x1), (3, .int x3), (4, .int x4)] [] st := by
  refine X_iload C dX7_digest_74 (j := 3) rfl ?_
  refine X_aload_n C dX7_digest_76 rfl (j := 0) rfl ?_
  refine X_iload_n C dX7_digest_77 rfl (j := 2) rfl ?_
  refine X_callV C dX7_digest_78 pw_RX7_96 (b := 7) (as := [.int x3]) (S := [.int x4]) sh_7 rfl rfl rfl (Nat.le_of_ble_eq_true rfl) (Ct_mono h ?_)
  rintro _ s1 ⟨v2, rfl, h⟩
  show X κ 81 [(0, .ref 7), (1, .long x1), (3, .int x3), (4, .int x4)] [.int v2, .int x4] s1
  refine X_icmp_gt C dX7_digest_81 (tgt := 105) (by decide) (fun c => ?_) (fun c => ?_)
  · replace h := h.1 c
    refine X_iinc C dX7_digest_105 (j := 2) rfl (v := x3 + 1) rfl (by decide) (L' := [(3, .int (x3 + 1)), (0, .ref 7), (1, .long x1), (4, .int x4)]) rfl ?_
    refine X_goto C dX7_digest_108 (tgt := 33) (by decide) ?_
    refine X_loc [1, 2, 0] rfl ?_
    exact h
  · replace h := h.2 c
    refine X_ldc2 C (v := 31) u_1511 dX7_digest_84 ?_
    refine X_lload_n C dX7_digest_87 rfl (j := 1) rfl ?_
    refine X_lmul C dX7_digest_88 ?_
    refine X_aload_n C dX7_digest_89 rfl (j := 0) rfl ?_
    refine X_iload_n C dX7_digest_90 rfl (j := 2) rfl ?_
    refine X_iload C dX7_digest_91 (j := 3) rfl ?_
    refine X_callV C dX7_digest_93 pw_RX7_106 (b := 7) (as := [.int x3, .int x4]) (S := [.long (31 * x1)]) sh_7 rfl rfl rfl (Nat.le_of_ble_eq_true rfl) (Ct_mono h ?_)
    rintro _ s3 ⟨v4, rfl, h⟩
    show X κ 96 [(0, .ref 7), (1, .long x1), (3, .int x3), (4, .int x4)] [.int v4, .long (31 * x1)] s3
    refine X_i2l C dX7_digest_96 ?_
    refine X_ladd C dX7_digest_97 ?_
    refine X_lstore_n C dX7_digest_98 rfl (by decide) (L' := [(1, .long ((31 * x1) + ((v4 : Int32).toInt64))), (0, .ref 7), (3, .int x3), (4, .int x4)]) rfl ?_
    refine X_iinc C dX7_digest_99 (j := 3) rfl (v := x4 + 1) rfl (by decide) (L' := [(4, .int (x4 + 1)), (1, .long ((31 * x1) + ((v4 : Int32).toInt64))), (0, .ref 7), (3, .int x3)]) rfl ?_
    refine X_goto C dX7_digest_102 (tgt := 74) (by decide) ?_
    refine X_loc [2, 1, 3, 0] rfl ?_
    exact h
set_option maxHeartbeats 4000000 in
set_option maxRecDepth 100000 in
theorem bX7_digest_125 {κ : xK} {d : Nat} {Q : Option Value → xSt → Prop} (C : Cx κ M_X7_digest (d + 1)) (Z : xR κ Q) (x1 : Int64) (x3 : Int32) (st : xSt) (h : (((st.1 7 10) ≤ x3 → X κ 174 [(0, .ref 7), (1, .long x1), (3, .int 0)] [] st) ∧ (¬ (st.1 7 10) ≤ x3 → X κ 136 [(0, .ref 7), (1, .long x1), (3, .int x3), (4, .int 0)] [] st))) : X κ 125 [(0, .ref 7), (1, .long x1), (3, .int x3)] [] st := by
  refine X_iload_n C dX7_digest_125 rfl (j := 2) rfl ?_
  refine X_aload_n C dX7_digest_126 rfl (j := 0) rfl ?_
  refine X_getI C sh_7 rfl fw_RX7_157 dX7_digest_127 ?_
  refine X_icmp_ge C dX7_digest_130 (tgt := 172) (by decide) (fun c => ?_) (fun c => ?_)
  · replace h := h.1 c
    refine X_iconst C (v := 0) (by decide) dX7_digest_172 ?_
    refine X_istore_n C dX7_digest_173 rfl (by decide) (L' := [(3, .int 0), (0, .ref 7), (1, .long x1)]) rfl ?_
    refine X_loc [1, 2, 0] rfl ?_
    exact h
  · replace h := h.2 c
    refine X_iconst C (v := 0) (by decide) dX7_digest_133 ?_
    refine X_istore C dX7_digest_134 (by decide) (L' := [(4, .int 0), (0, .ref 7), (1, .long x1), (3, .int x3)]) rfl ?_
    refine X_loc [1, 2, 3, 0] rfl ?_
    exact h
set_option maxHeartbeats 4000000 in
set_option maxRecDepth 100000 in
theorem bX7_digest_136 {κ : xK} {d : Nat} {Q : Option Value → xSt → Prop} (C : Cx κ M_X7_digest (d + 1)) (Z : xR κ Q) (x1 : Int64) (x3 : Int32) (x4 : Int32) (st : xSt) (h : (((st.1 7 10) ≤ x4 → X κ 125 [(0, .ref 7), (1, .long x1), (3, .int (x3 + 1))] [] st) ∧ (¬ (st.1 7 10) ≤ x4 → Ct d M_X7_owedBy [.ref 7, .int x3, .int x4] st (Qi fun v2 s1 => X κ 136 [(0, .ref 7), (1, .long ((31 * x1) + ((v2 : Int32).toInt64))), (3, .int x3), (4, .int (x4 + 1))] [] s1)))) : X κ 136 [(0, .ref 7), (1, .long x1), (3, .int x3), (4, .int x4)] [] st := by
  refine X_iload C dX7_digest_136 (j := 3) rfl ?_
  refine X_aload_n C dX7_digest_138 rfl (j := 0) rfl ?_
  refine X_getI C sh_7 rfl fw_RX7_157 dX7_digest_139 ?_
  refine X_icmp_ge C dX7_digest_142 (tgt := 166) (by decide) (fun c => ?_) (fun c => ?_)
  · replace h := h.1 c
    refine X_iinc C dX7_digest_166 (j := 2) rfl (v := x3 + 1) rfl (by decide) (L' := [(3, .int (x3 + 1)), (0, .ref 7), (1, .long x1), (4, .int x4)]) rfl ?_
    refine X_goto C dX7_digest_169 (tgt := 125) (by decide) ?_
    refine X_loc [1, 2, 0] rfl ?_
    exact h
  · replace h := h.2 c
    refine X_ldc2 C (v := 31) u_1511 dX7_digest_145 ?_
    refine X_lload_n C dX7_digest_148 rfl (j := 1) rfl ?_
    refine X_lmul C dX7_digest_149 ?_
    refine X_aload_n C dX7_digest_150 rfl (j := 0) rfl ?_
    refine X_iload_n C dX7_digest_151 rfl (j := 2) rfl ?_
    refine X_iload C dX7_digest_152 (j := 3) rfl ?_
    refine X_callV C dX7_digest_154 pw_RX7_167 (b := 7) (as := [.int x3, .int x4]) (S := [.long (31 * x1)]) sh_7 rfl rfl rfl (Nat.le_of_ble_eq_true rfl) (Ct_mono h ?_)
    rintro _ s1 ⟨v2, rfl, h⟩
    show X κ 157 [(0, .ref 7), (1, .long x1), (3, .int x3), (4, .int x4)] [.int v2, .long (31 * x1)] s1
    refine X_i2l C dX7_digest_157 ?_
    refine X_ladd C dX7_digest_158 ?_
    refine X_lstore_n C dX7_digest_159 rfl (by decide) (L' := [(1, .long ((31 * x1) + ((v2 : Int32).toInt64))), (0, .ref 7), (3, .int x3), (4, .int x4)]) rfl ?_
    refine X_iinc C dX7_digest_160 (j := 3) rfl (v := x4 + 1) rfl (by decide) (L' := [(4, .int (x4 + 1)), (1, .long ((31 * x1) + ((v2 : Int32).toInt64))), (0, .ref 7), (3, .int x3)]) rfl ?_
    refine X_goto C dX7_digest_163 (tgt := 136) (by decide) ?_
    refine X_loc [2, 1, 3, 0] rfl ?_
    exact h
set_option maxHeartbeats 4000000 in
set_option maxRecDepth 100000 in
theorem bX7_digest_174 {κ : xK} {d : Nat} {Q : Option Value → xSt → Prop} (C : Cx κ M_X7_digest (d + 1)) (Z : xR κ Q) (x1 : Int64) (x3 : Int32) (st : xSt) (h : (((st.1 7 14) ≤ x3 → Q (some (.long x1)) st) ∧ (¬ (st.1 7 14) ≤ x3 → X κ 185 [(0, .ref 7), (1, .long x1), (3, .int x3), (4, .int 0)] [] st))) : X κ 174 [(0, .ref 7), (1, .long x1), (3, .int x3)] [] st := by
  refine X_iload_n C dX7_digest_174 rfl (j := 2) rfl ?_
  refine X_aload_n C dX7_digest_175 rfl (j := 0) rfl ?_
  refine X_getI C sh_7 rfl fw_RX7_180 dX7_digest_176 ?_
  refine X_icmp_ge C dX7_digest_179 (tgt := 231) (by decide) (fun c => ?_) (fun c => ?_)
  · replace h := h.1 c
    refine X_lload_n C dX7_digest_231 rfl (j := 1) rfl ?_
    exact X_lret C Z rfl dX7_digest_232 h
  · replace h := h.2 c
    refine X_iconst C (v := 0) (by decide) dX7_digest_182 ?_
    refine X_istore C dX7_digest_183 (by decide) (L' := [(4, .int 0), (0, .ref 7), (1, .long x1), (3, .int x3)]) rfl ?_
    refine X_loc [1, 2, 3, 0] rfl ?_
    exact h
set_option maxHeartbeats 4000000 in
set_option maxRecDepth 100000 in
theorem bX7_digest_185 {κ : xK} {d : Nat} {Q : Option Value → xSt → Prop} (C : Cx κ M_X7_digest (d + 1)) (Z : xR κ Q) (x1 : Int64) (x3 : Int32) (x4 : Int32) (st : xSt) (h : ((5 ≤ x4 → Ct d M_X7_motherOf [.ref 7, .int x3] st (Qi fun v2 s1 => X κ 174 [(0, .ref 7), (1, .long ((31 * x1) + ((v2 : Int32).toInt64))), (3, .int (x3 + 1))] [] s1)) ∧ (¬ 5 ≤ x4 → Ct d M_X7_listOf [.ref 7, .int x3, .int x4] st (Qi fun v4 s3 => X κ 185 [(0, .ref 7), (1, .long ((31 * x1) + ((v4 : Int32).toInt64))), (3, .int x3), (4, .int (x4 + 1))] [] s3)))) : X κ 185 [(0, .ref 7), (1, .long x1), (3, .int x3), (4, .int x4)] [] st := by
  refine X_iload C dX7_digest_185 (j := 3) rfl ?_
  refine X_iconst C (v := 5) (by decide) dX7_digest_187 ?_
  refine X_icmp_ge C dX7_digest_188 (tgt := 212) (by decide) (fun c => ?_) (fun c => ?_)
  · replace h := h.1 c
    refine X_ldc2 C (v := 31) u_1511 dX7_digest_212 ?_
    refine X_lload_n C dX7_digest_215 rfl (j := 1) rfl ?_
    refine X_lmul C dX7_digest_216 ?_
    refine X_aload_n C dX7_digest_217 rfl (j := 0) rfl ?_
    refine X_iload_n C dX7_digest_218 rfl (j := 2) rfl ?_
    refine X_callV C dX7_digest_219 pw_RX7_195 (b := 7) (as := [.int x3]) (S := [.long (31 * x1)]) sh_7 rfl rfl rfl (Nat.le_of_ble_eq_true rfl) (Ct_mono h ?_)
    rintro _ s1 ⟨v2, rfl, h⟩
    show X κ 222 [(0, .ref 7), (1, .long x1), (3, .int x3), (4, .int x4)] [.int v2, .long (31 * x1)] s1
    refine X_i2l C dX7_digest_222 ?_
    refine X_ladd C dX7_digest_223 ?_
    refine X_lstore_n C dX7_digest_224 rfl (by decide) (L' := [(1, .long ((31 * x1) + ((v2 : Int32).toInt64))), (0, .ref 7), (3, .int x3), (4, .int x4)]) rfl ?_
    refine X_iinc C dX7_digest_225 (j := 2) rfl (v := x3 + 1) rfl (by decide) (L' := [(3, .int (x3 + 1)), (1, .long ((31 * x1) + ((v2 : Int32).toInt64))), (0, .ref 7), (4, .int x4)]) rfl ?_
    refine X_goto C dX7_digest_228 (tgt := 174) (by decide) ?_
    refine X_loc [2, 1, 0] rfl ?_
    exact h
  · replace h := h.2 c
    refine X_ldc2 C (v := 31) u_1511 dX7_digest_191 ?_
    refine X_lload_n C dX7_digest_194 rfl (j := 1) rfl ?_
    refine X_lmul C dX7_digest_195 ?_
    refine X_aload_n C dX7_digest_196 rfl (j := 0) rfl ?_
    refine X_iload_n C dX7_digest_197 rfl (j := 2) rfl ?_
    refine X_iload C dX7_digest_198 (j := 3) rfl ?_
    refine X_callV C dX7_digest_200 pw_RX7_189 (b := 7) (as := [.int x3, .int x4]) (S := [.long (31 * x1)]) sh_7 rfl rfl rfl (Nat.le_of_ble_eq_true rfl) (Ct_mono h ?_)
    rintro _ s3 ⟨v4, rfl, h⟩
    show X κ 203 [(0, .ref 7), (1, .long x1), (3, .int x3), (4, .int x4)] [.int v4, .long (31 * x1)] s3
    refine X_i2l C dX7_digest_203 ?_
    refine X_ladd C dX7_digest_204 ?_
    refine X_lstore_n C dX7_digest_205 rfl (by decide) (L' := [(1, .long ((31 * x1) + ((v4 : Int32).toInt64))), (0, .ref 7), (3, .int x3), (4, .int x4)]) rfl ?_
    refine X_iinc C dX7_digest_206 (j := 3) rfl (v := x4 + 1) rfl (by decide) (L' := [(4, .int (x4 + 1)), (1, .long ((31 * x1) + ((v4 : Int32).toInt64))), (0, .ref 7), (3, .int x3)]) rfl ?_
    refine X_goto C dX7_digest_209 (tgt := 185) (by decide) ?_
    refine X_loc [2, 1, 3, 0] rfl ?_
    exact h
set_option maxHeartbeats 4000000 in
set_option maxRecDepth 100000 in
theorem eX7_digest {d : Nat} {Q : Option Value → xSt → Prop} (st : xSt) (h : ∀ κ : xK, Cx κ M_X7_digest (d + 1) → xR κ Q → X κ 6 [(0, .ref 7), (1, .long 17), (3, .int 0)] [] st) : Ct (d + 1) M_X7_digest [.ref 7] st Q := by
  refine Ct_of (by decide +kernel) (Nat.le_of_ble_eq_true rfl) (fun κ C Z => ?_)
  replace h := h κ C Z
  show X κ 0 [(0, .ref 7)] [] st
  refine X_ldc2 C (v := 17) u_1510 dX7_digest_0 ?_
  refine X_lstore_n C dX7_digest_3 rfl (by decide) (L' := [(1, .long 17), (0, .ref 7)]) rfl ?_
  refine X_iconst C (v := 0) (by decide) dX7_digest_4 ?_
  refine X_istore_n C dX7_digest_5 rfl (by decide) (L' := [(3, .int 0), (1, .long 17), (0, .ref 7)]) rfl ?_
  refine X_loc [2, 1, 0] rfl ?_
  exact h
