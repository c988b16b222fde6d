set_option maxHeartbeats 4000000 in
set_option maxRecDepth 100000 in
theorem eX2_size {d : Nat} {Q : Option Value → xSt → Prop} (st : xSt) (h : Q (some (.int (st.1 5 5))) st) : Ct (d) M_X2_size [.ref 5] st Q := by
  refine Ct_of (by decide +kernel) (Nat.le_of_ble_eq_true rfl) (fun κ C Z => ?_)
  show X κ 0 [(0, .ref 5)] [] st
  refine X_aload_n C dX2_size_0 rfl (j := 0) rfl ?_
  refine X_getI C sh_5 rfl fw_RX2_29 dX2_size_1 ?_
  exact X_iret C Z rfl dX2_size_4 h
set_option maxHeartbeats 4000000 in
set_option maxRecDepth 100000 in
theorem eX2_isFull {d : Nat} {Q : Option Value → xSt → Prop} (st : xSt) (h : (((st.1 5 5) < 8 → Q (some (.int 0)) st) ∧ (¬ (st.1 5 5) < 8 → Q (some (.int 1)) st))) : Ct (d) M_X2_isFull [.ref 5] st Q := by
  refine Ct_of (by decide +kernel) (Nat.le_of_ble_eq_true rfl) (fun κ C Z => ?_)
  show X κ 0 [(0, .ref 5)] [] st
  refine X_aload_n C dX2_isFull_0 rfl (j := 0) rfl ?_
  refine X_getI C sh_5 rfl fw_RX2_29 dX2_isFull_1 ?_
  refine X_bipush C (v := 8) (by decide) dX2_isFull_4 ?_
  refine X_icmp_lt C dX2_isFull_6 (tgt := 13) (by decide) (fun c => ?_) (fun c => ?_)
  · replace h := h.1 c
    refine X_iconst C (v := 0) (by decide) dX2_isFull_13 ?_
    exact X_zret C Z rfl (by decide) dX2_isFull_14 h
  · replace h := h.2 c
    refine X_iconst C (v := 1) (by decide) dX2_isFull_9 ?_
    refine X_goto C dX2_isFull_10 (tgt := 14) (by decide) ?_
    exact X_zret C Z rfl (by decide) dX2_isFull_14 h
set_option maxHeartbeats 4000000 in
set_option maxRecDepth 100000 in
theorem eX2_has {d : Nat} {Q : Option Value → xSt → Prop} (a1 : Int32) (st : xSt) (h : ((a1 < 0 → Q (some (.int 0)) st) ∧ (¬ a1 < 0 → (((st.1 5 5) ≤ a1 → Q (some (.int 0)) st) ∧ (¬ (st.1 5 5) ≤ a1 → ((8 ≤ a1 → Q (some (.int 0)) st) ∧ (¬ 8 ≤ a1 → Q (some (.int 1)) st))))))) : Ct (d) M_X2_has [.ref 5, .int a1] st Q := by
  refine Ct_of (by decide +kernel) (Nat.le_of_ble_eq_true rfl) (fun κ C Z => ?_)
  show X κ 0 [(0, .ref 5), (1, .int a1)] [] st
  refine X_iload_n C dX2_has_0 rfl (j := 1) rfl ?_
  refine X_if_lt C dX2_has_1 (tgt := 22) (by decide) (fun c => ?_) (fun c => ?_)
  · replace h := h.1 c
    refine X_iconst C (v := 0) (by decide) dX2_has_22 ?_
    exact X_zret C Z rfl (by decide) dX2_has_23 h
  · replace h := h.2 c
    refine X_iload_n C dX2_has_4 rfl (j := 1) rfl ?_
    refine X_aload_n C dX2_has_5 rfl (j := 0) rfl ?_
    refine X_getI C sh_5 rfl fw_RX2_29 dX2_has_6 ?_
    refine X_icmp_ge C dX2_has_9 (tgt := 22) (by decide) (fun c => ?_) (fun c => ?_)
    · replace h := h.1 c
      refine X_iconst C (v := 0) (by decide) dX2_has_22 ?_
      exact X_zret C Z rfl (by decide) dX2_has_23 h
    · replace h := h.2 c
      refine X_iload_n C dX2_has_12 rfl (j := 1) rfl ?_
      refine X_bipush C (v := 8) (by decide) dX2_has_13 ?_
      refine X_icmp_ge C dX2_has_15 (tgt := 22) (by decide) (fun c => ?_) (fun c => ?_)
      · replace h := h.1 c
        refine X_iconst C (v := 0) (by decide) dX2_has_22 ?_
        exact X_zret C Z rfl (by decide) dX2_has_23 h
      · replace h := h.2 c
        refine X_iconst C (v := 1) (by decide) dX2_has_18 ?_
        refine X_goto C dX2_has_19 (tgt := 23) (by decide) ?_
        exact X_zret C Z rfl (by decide) dX2_has_23 h
set_option maxHeartbeats 4000000 in
set_option maxRecDepth 100000 in
theorem eX2_lengthOf {d : Nat} {Q : Option Value → xSt → Prop} (a1 : Int32) (st : xSt) (h : Ct d M_X2_has [.ref 5, .int a1] st (Qi fun v2 s1 => ((v2 = 0 → Q (some (.int 0)) s1) ∧ (¬ v2 = 0 → vp_in a1 8 ∧ Q (some (.int (s1.1 23 (a1 : Int32).toNatClampNeg))) s1)))) : Ct (d + 1) M_X2_lengthOf [.ref 5, .int a1] st Q := by
  refine Ct_of (by decide +kernel) (Nat.le_of_ble_eq_true rfl) (fun κ C Z => ?_)
  show X κ 0 [(0, .ref 5), (1, .int a1)] [] st
  refine X_aload_n C dX2_lengthOf_0 rfl (j := 0) rfl ?_
  refine X_iload_n C dX2_lengthOf_1 rfl (j := 1) rfl ?_
  refine X_callV C dX2_lengthOf_2 pw_RX2_33 (b := 5) (as := [.int a1]) (S := []) sh_5 rfl rfl rfl (Nat.le_of_ble_eq_true rfl) (Ct_mono h ?_)
  rintro _ s1 ⟨v2, rfl, h⟩
  show X κ 5 [(0, .ref 5), (1, .int a1)] [.int v2] s1
  refine X_if_eq C dX2_lengthOf_5 (tgt := 17) (by decide) (fun c => ?_) (fun c => ?_)
  · replace h := h.1 c
    refine X_iconst C (v := 0) (by decide) dX2_lengthOf_17 ?_
    exact X_iret C Z rfl dX2_lengthOf_18 h
  · replace h := h.2 c
    refine X_aload_n C dX2_lengthOf_8 rfl (j := 0) rfl ?_
    refine X_getR C sh_5 rfl fw_RX2_16 dX2_lengthOf_9 ?_
    refine X_iload_n C dX2_lengthOf_12 rfl (j := 1) rfl ?_
    obtain ⟨g3, h⟩ := h
    refine X_iald C sh_23 g3 dX2_lengthOf_13 ?_
    refine X_goto C dX2_lengthOf_14 (tgt := 18) (by decide) ?_
    exact X_iret C Z rfl dX2_lengthOf_18 h
set_option maxHeartbeats 4000000 in
set_option maxRecDepth 100000 in
theorem eX2_yearOf {d : Nat} {Q : Option Value → xSt → Prop} (a1 : Int32) (st : xSt) (h : Ct d M_X2_has [.ref 5, .int a1] st (Qi fun v2 s1 => ((v2 = 0 → Q (some (.int ((-1)))) s1) ∧ (¬ v2 = 0 → vp_in a1 8 ∧ Q (some (.int (s1.1 24 (a1 : Int32).toNatClampNeg))) s1)))) : Ct (d + 1) M_X2_yearOf [.ref 5, .int a1] st Q := by
  refine Ct_of (by decide +kernel) (Nat.le_of_ble_eq_true rfl) (fun κ C Z => ?_)
  show X κ 0 [(0, .ref 5), (1, .int a1)] [] st
  refine X_aload_n C dX2_yearOf_0 rfl (j := 0) rfl ?_
  refine X_iload_n C dX2_yearOf_1 rfl (j := 1) rfl ?_
  refine X_callV C dX2_yearOf_2 pw_RX2_33 (b := 5) (as := [.int a1]) (S := []) sh_5 rfl rfl rfl (Nat.le_of_ble_eq_true rfl) (Ct_mono h ?_)
  rintro _ s1 ⟨v2, rfl, h⟩
  show X κ 5 [(0, .ref 5), (1, .int a1)] [.int v2] s1
  refine X_if_eq C dX2_yearOf_5 (tgt := 17) (by decide) (fun c => ?_) (fun c => ?_)
  · replace h := h.1 c
    refine X_iconst C (v := (-1)) (by decide) dX2_yearOf_17 ?_
    exact X_iret C Z rfl dX2_yearOf_18 h
  · replace h := h.2 c
    refine X_aload_n C dX2_yearOf_8 rfl (j := 0) rfl ?_
    refine X_getR C sh_5 rfl fw_RX2_20 dX2_yearOf_9 ?_
    refine X_iload_n C dX2_yearOf_12 rfl (j := 1) rfl ?_
    obtain ⟨g3, h⟩ := h
    refine X_iald C sh_24 g3 dX2_yearOf_13 ?_
    refine X_goto C dX2_yearOf_14 (tgt := 18) (by decide) ?_
    exact X_iret C Z rfl dX2_yearOf_18 h
set_option maxHeartbeats 4000000 in
set_option maxRecDepth 100000 in
theorem eX2_item {d : Nat} {Q : Option Value → xSt → Prop} (a1 : Int32) (a2 : Int32) (st : xSt) (h : Ct d M_X2_has [.ref 5, .int a1] st (Qi fun v2 s1 => ((v2 = 0 → Q (some (.int ((-1)))) s1) ∧ (¬ v2 = 0 → ((a2 < 0 → Q (some (.int ((-1)))) s1) ∧ (¬ a2 < 0 → vp_in a1 8 ∧ (((s1.1 23 (a1 : Int32).toNatClampNeg) ≤ a2 → Q (some (.int ((-1)))) s1) ∧ (¬ (s1.1 23 (a1 : Int32).toNatClampNeg) ≤ a2 → ((30 ≤ a2 → Q (some (.int ((-1)))) s1) ∧ (¬ 30 ≤ a2 → vp_in a1 8 ∧ vp_in a2 30 ∧ Q (some (.int (s1.1 (74 + (a1 : Int32).toNatClampNeg) (a2 : Int32).toNatClampNeg))) s1)))))))))) : Ct (d + 1) M_X2_item [.ref 5, .int a1, .int a2] st Q := by
  refine Ct_of (by decide +kernel) (Nat.le_of_ble_eq_true rfl) (fun κ C Z => ?_)
  show X κ 0 [(0, .ref 5), (1, .int a1), (2, .int a2)] [] st
  refine X_aload_n C dX2_item_0 rfl (j := 0) rfl ?_
  refine X_iload_n C dX2_item_1 rfl (j := 1) rfl ?_
  refine X_callV C dX2_item_2 pw_RX2_33 (b := 5) (as := [.int a1]) (S := []) sh_5 rfl rfl rfl (Nat.le_of_ble_eq_true rfl) (Ct_mono h ?_)
  rintro _ s1 ⟨v2, rfl, h⟩
  show X κ 5 [(0, .ref 5), (1, .int a1), (2, .int a2)] [.int v2] s1
  refine X_if_eq C dX2_item_5 (tgt := 39) (by decide) (fun c => ?_) (fun c => ?_)
  · replace h := h.1 c
    refine X_iconst C (v := (-1)) (by decide) dX2_item_39 ?_
    exact X_iret C Z rfl dX2_item_40 h
  · replace h := h.2 c
    refine X_iload_n C dX2_item_8 rfl (j := 2) rfl ?_
    refine X_if_lt C dX2_item_9 (tgt := 39) (by decide) (fun c => ?_) (fun c => ?_)
    · replace h := h.1 c
      refine X_iconst C (v := (-1)) (by decide) dX2_item_39 ?_
      exact X_iret C Z rfl dX2_item_40 h
    · replace h := h.2 c
      refine X_iload_n C dX2_item_12 rfl (j := 2) rfl ?_
      refine X_aload_n C dX2_item_13 rfl (j := 0) rfl ?_
      refine X_getR C sh_5 rfl fw_RX2_16 dX2_item_14 ?_
      refine X_iload_n C dX2_item_17 rfl (j := 1) rfl ?_
      obtain ⟨g3, h⟩ := h
      refine X_iald C sh_23 g3 dX2_item_18 ?_
      refine X_icmp_ge C dX2_item_19 (tgt := 39) (by decide) (fun c => ?_) (fun c => ?_)
      · replace h := h.1 c
        refine X_iconst C (v := (-1)) (by decide) dX2_item_39 ?_
        exact X_iret C Z rfl dX2_item_40 h
      · replace h := h.2 c
        refine X_iload_n C dX2_item_22 rfl (j := 2) rfl ?_
        refine X_bipush C (v := 30) (by decide) dX2_item_23 ?_
        refine X_icmp_ge C dX2_item_25 (tgt := 39) (by decide) (fun c => ?_) (fun c => ?_)
        · replace h := h.1 c
          refine X_iconst C (v := (-1)) (by decide) dX2_item_39 ?_
          exact X_iret C Z rfl dX2_item_40 h
        · replace h := h.2 c
          refine X_aload_n C dX2_item_28 rfl (j := 0) rfl ?_
          refine X_getR C sh_5 rfl fw_RX2_13 dX2_item_29 ?_
          refine X_iload_n C dX2_item_32 rfl (j := 1) rfl ?_
          obtain ⟨g4, h⟩ := h
          refine X_aald C sh_22 g4 dX2_item_33 ?_
          refine X_iload_n C dX2_item_34 rfl (j := 2) rfl ?_
          obtain ⟨g5, h⟩ := h
          refine X_iald C (shr_74 (vp_lt g4)) g5 dX2_item_35 ?_
          refine X_goto C dX2_item_36 (tgt := 40) (by decide) ?_
          exact X_iret C Z rfl dX2_item_40 h
set_option maxHeartbeats 4000000 in
set_option maxRecDepth 100000 in
theorem bX2_keep_23 {κ : xK} {d : Nat} {Q : Option Value → xSt → Prop} (C : Cx κ M_X2_keep (d + 1)) (Z : xR κ Q) (x2 : Int32) (x3 : Int32) (x4 : Int32) (x5 : Int32) (st : xSt) (h : ((x3 ≤ x5 → vp_in (st.1 5 5) 8 ∧ vp_in ((xup st 23 (st.1 5 5 : Int32).toNatClampNeg x3).1 5 5) 8 ∧ Q (some (.int (((xup (xup (xup st 23 (st.1 5 5 : Int32).toNatClampNeg x3) 24 ((xup st 23 (st.1 5 5 : Int32).toNatClampNeg x3).1 5 5 : Int32).toNatClampNeg x4) 5 5 (((xup (xup st 23 (st.1 5 5 : Int32).toNatClampNeg x3) 24 ((xup st 23 (st.1 5 5 : Int32).toNatClampNeg x3).1 5 5 : Int32).toNatClampNeg x4).1 5 5) + 1)).1 5 5) - 1))) (xup (xup (xup st 23 (st.1 5 5 : Int32).toNatClampNeg x3) 24 ((xup st 23 (st.1 5 5 : Int32).toNatClampNeg x3).1 5 5 : Int32).toNatClampNeg x4) 5 5 (((xup (xup st 23 (st.1 5 5 : Int32).toNatClampNeg x3) 24 ((xup st 23 (st.1 5 5 : Int32).toNatClampNeg x3).1 5 5 : Int32).toNatClampNeg x4).1 5 5) + 1))) ∧ (¬ x3 ≤ x5 → vp_in (st.1 5 5) 8 ∧ Ct d M_X4_wordAt [.ref 1, .int x2, .int x5] st (Qi fun v5 s4 => vp_in x5 30 ∧ X κ 23 [(0, .ref 5), (1, .ref 1), (2, .int x2), (3, .int x3), (4, .int x4), (5, .int (x5 + 1))] [] (xup s4 (74 + (st.1 5 5 : Int32).toNatClampNeg) (x5 : Int32).toNatClampNeg v5))))) : X κ 23 [(0, .ref 5), (1, .ref 1), (2, .int x2), (3, .int x3), (4, .int x4), (5, .int x5)] [] st := by
  refine X_iload C dX2_keep_23 (j := 5) rfl ?_
  refine X_iload_n C dX2_keep_25 rfl (j := 3) rfl ?_
  refine X_icmp_ge C dX2_keep_26 (tgt := 54) (by decide) (fun c => ?_) (fun c => ?_)
  · replace h := h.1 c
    refine X_aload_n C dX2_keep_54 rfl (j := 0) rfl ?_
    refine X_getR C sh_5 rfl fw_RX2_16 dX2_keep_55 ?_
    refine X_aload_n C dX2_keep_58 rfl (j := 0) rfl ?_
    refine X_getI C sh_5 rfl fw_RX2_29 dX2_keep_59 ?_
    refine X_iload_n C dX2_keep_62 rfl (j := 3) rfl ?_
    obtain ⟨g1, h⟩ := h
    refine X_iast C sh_23 g1 dX2_keep_63 ?_
    refine X_aload_n C dX2_keep_64 rfl (j := 0) rfl ?_
    refine X_getR C sh_5 rfl fw_RX2_20 dX2_keep_65 ?_
    refine X_aload_n C dX2_keep_68 rfl (j := 0) rfl ?_
    refine X_getI C sh_5 rfl fw_RX2_29 dX2_keep_69 ?_
    refine X_iload C dX2_keep_72 (j := 4) rfl ?_
    obtain ⟨g2, h⟩ := h
    refine X_iast C sh_24 g2 dX2_keep_74 ?_
    refine X_aload_n C dX2_keep_75 rfl (j := 0) rfl ?_
    refine X_dup C rfl dX2_keep_76 ?_
    refine X_getI C sh_5 rfl fw_RX2_29 dX2_keep_77 ?_
    refine X_iconst C (v := 1) (by decide) dX2_keep_80 ?_
    refine X_iadd C dX2_keep_81 ?_
    refine X_putI C sh_5 rfl fp_RX2_29 dX2_keep_82 ?_
    refine X_aload_n C dX2_keep_85 rfl (j := 0) rfl ?_
    refine X_getI C sh_5 rfl fw_RX2_29 dX2_keep_86 ?_
    refine X_iconst C (v := 1) (by decide) dX2_keep_89 ?_
    refine X_isub C dX2_keep_90 ?_
    exact X_iret C Z rfl dX2_keep_91 h
  · replace h := h.2 c
    refine X_aload_n C dX2_keep_29 rfl (j := 0) rfl ?_
    refine X_getR C sh_5 rfl fw_RX2_13 dX2_keep_30 ?_
    refine X_aload_n C dX2_keep_33 rfl (j := 0) rfl ?_
    refine X_getI C sh_5 rfl fw_RX2_29 dX2_keep_34 ?_
    obtain ⟨g3, h⟩ := h
    refine X_aald C sh_22 g3 dX2_keep_37 ?_
    refine X_iload C dX2_keep_38 (j := 5) rfl ?_
    refine X_aload_n C dX2_keep_40 rfl (j := 1) rfl ?_
    refine X_iload_n C dX2_keep_41 rfl (j := 2) rfl ?_
    refine X_iload C dX2_keep_42 (j := 5) rfl ?_
    refine X_callV C dX2_keep_44 pw_RX2_45 (b := 1) (as := [.int x2, .int x5]) (S := [.int x5, .ref (74 + (st.1 5 5 : Int32).toNatClampNeg)]) sh_1 rfl rfl rfl (Nat.le_of_ble_eq_true rfl) (Ct_mono h ?_)
    rintro _ s4 ⟨v5, rfl, h⟩
    show X κ 47 [(0, .ref 5), (1, .ref 1), (2, .int x2), (3, .int x3), (4, .int x4), (5, .int x5)] [.int v5, .int x5, .ref (74 + (st.1 5 5 : Int32).toNatClampNeg)] s4
    obtain ⟨g6, h⟩ := h
    refine X_iast C (shr_74 (vp_lt g3)) g6 dX2_keep_47 ?_
    refine X_iinc C dX2_keep_48 (j := 5) rfl (v := x5 + 1) rfl (by decide) (L' := [(5, .int (x5 + 1)), (0, .ref 5), (1, .ref 1), (2, .int x2), (3, .int x3), (4, .int x4)]) rfl ?_
    refine X_goto C dX2_keep_51 (tgt := 23) (by decide) ?_
    refine X_loc [1, 2, 3, 4, 5, 0] rfl ?_
    exact h
set_option maxHeartbeats 4000000 in
set_option maxRecDepth 100000 in
theorem eX2_keep {d : Nat} {Q : Option Value → xSt → Prop} (a2 : Int32) (a3 : Int32) (a4 : Int32) (st : xSt) (h : ∀ κ : xK, Cx κ M_X2_keep (d + 1) → xR κ Q → Ct d M_X2_isFull [.ref 5] st (Qi fun v2 s1 => ((¬ v2 = 0 → Q (some (.int ((-4)))) s1) ∧ (v2 = 0 → Ct d M_X6_within [.int a3, .int 0, .int 30] s1 (Qi fun v4 s3 => ((¬ v4 = 0 → X κ 23 [(0, .ref 5), (1, .ref 1), (2, .int a2), (3, .int a3), (4, .int a4), (5, .int 0)] [] s3) ∧ (v4 = 0 → Q (some (.int ((-4)))) s3))))))) : Ct (d + 1) M_X2_keep [.ref 5, .ref 1, .int a2, .int a3, .int a4] st Q := by
  refine Ct_of (by decide +kernel) (Nat.le_of_ble_eq_true rfl) (fun κ C Z => ?_)
  replace h := h κ C Z
  show X κ 0 [(0, .ref 5), (1, .ref 1), (2, .int a2), (3, .int a3), (4, .int a4)] [] st
  refine X_aload_n C dX2_keep_0 rfl (j := 0) rfl ?_
  refine X_callV C dX2_keep_1 pw_RX2_37 (b := 5) (as := []) (S := []) sh_5 rfl rfl rfl (Nat.le_of_ble_eq_true rfl) (Ct_mono h ?_)
  rintro _ s1 ⟨v2, rfl, h⟩
  show X κ 4 [(0, .ref 5), (1, .ref 1), (2, .int a2), (3, .int a3), (4, .int a4)] [.int v2] s1
  refine X_if_ne C dX2_keep_4 (tgt := 17) (by decide) (fun c => ?_) (fun c => ?_)
  · replace h := h.1 c
    refine X_bipush C (v := (-4)) (by decide) dX2_keep_17 ?_
    exact X_iret C Z rfl dX2_keep_19 h
  · replace h := h.2 c
    refine X_iload_n C dX2_keep_7 rfl (j := 3) rfl ?_
    refine X_iconst C (v := 0) (by decide) dX2_keep_8 ?_
    refine X_bipush C (v := 30) (by decide) dX2_keep_9 ?_
    refine X_callN C dX2_keep_11 pw_RX2_41 (as := [.int a3, .int 0, .int 30]) (S := []) rfl rfl (Nat.le_of_ble_eq_true rfl) (Ct_mono h ?_)
    rintro _ s3 ⟨v4, rfl, h⟩
    show X κ 14 [(0, .ref 5), (1, .ref 1), (2, .int a2), (3, .int a3), (4, .int a4)] [.int v4] s3
    refine X_if_ne C dX2_keep_14 (tgt := 20) (by decide) (fun c => ?_) (fun c => ?_)
    · replace h := h.1 c
      refine X_iconst C (v := 0) (by decide) dX2_keep_20 ?_
      refine X_istore C dX2_keep_21 (by decide) (L' := [(5, .int 0), (0, .ref 5), (1, .ref 1), (2, .int a2), (3, .int a3), (4, .int a4)]) rfl ?_
      refine X_loc [1, 2, 3, 4, 5, 0] rfl ?_
      exact h
    · replace h := h.2 c
      refine X_bipush C (v := (-4)) (by decide) dX2_keep_17 ?_
      exact X_iret C Z rfl dX2_keep_19 h
set_option maxHeartbeats 4000000 in
set_option maxRecDepth 100000 in
theorem bX2_gaps_4 {κ : xK} {d : Nat} {Q : Option Value → xSt → Prop} (C : Cx κ M_X2_gaps (d + 1)) (Z : xR κ Q) (x1 : Int32) (x2 : Int32) (x3 : Int32) (st : xSt) (h : Ct d M_X2_lengthOf [.ref 5, .int x1] st (Qi fun v2 s1 => ((v2 ≤ x3 → Q (some (.int x2)) s1) ∧ (¬ v2 ≤ x3 → Ct d M_X2_item [.ref 5, .int x1, .int x3] s1 (Qi fun v4 s3 => ((¬ v4 = ((-1)) → X κ 4 [(0, .ref 5), (1, .int x1), (2, .int x2), (3, .int (x3 + 1))] [] s3) ∧ (v4 = ((-1)) → X κ 4 [(0, .ref 5), (1, .int x1), (2, .int (x2 + 1)), (3, .int (x3 + 1))] [] s3))))))) : X κ 4 [(0, .ref 5), (1, .int x1), (2, .int x2), (3, .int x3)] [] st := by
  refine X_iload_n C dX2_gaps_4 rfl (j := 3) rfl ?_
  refine X_aload_n C dX2_gaps_5 rfl (j := 0) rfl ?_
  refine X_iload_n C dX2_gaps_6 rfl (j := 1) rfl ?_
  refine X_callV C dX2_gaps_7 pw_RX2_51 (b := 5) (as := [.int x1]) (S := [.int x3]) sh_5 rfl rfl rfl (Nat.le_of_ble_eq_true rfl) (Ct_mono h ?_)
  rintro _ s1 ⟨v2, rfl, h⟩
  show X κ 10 [(0, .ref 5), (1, .int x1), (2, .int x2), (3, .int x3)] [.int v2, .int x3] s1
  refine X_icmp_ge C dX2_gaps_10 (tgt := 32) (by decide) (fun c => ?_) (fun c => ?_)
  · replace h := h.1 c
    refine X_iload_n C dX2_gaps_32 rfl (j := 2) rfl ?_
    exact X_iret C Z rfl dX2_gaps_33 h
  · replace h := h.2 c
    refine X_aload_n C dX2_gaps_13 rfl (j := 0) rfl ?_
    refine X_iload_n C dX2_gaps_14 rfl (j := 1) rfl ?_
    refine X_iload_n C dX2_gaps_15 rfl (j := 3) rfl ?_
    refine X_callV C dX2_gaps_16 pw_RX2_55 (b := 5) (as := [.int x1, .int x3]) (S := []) sh_5 rfl rfl rfl (Nat.le_of_ble_eq_true rfl) (Ct_mono h ?_)
    rintro _ s3 ⟨v4, rfl, h⟩
    show X κ 19 [(0, .ref 5), (1, .int x1), (2, .int x2), (3, .int x3)] [.int v4] s3
    refine X_iconst C (v := (-1)) (by decide) dX2_gaps_19 ?_
    refine X_icmp_ne C dX2_gaps_20 (tgt := 26) (by decide) (fun c => ?_) (fun c => ?_)
    · replace h := h.1 c
      refine X_iinc C dX2_gaps_26 (j := 3) rfl (v := x3 + 1) rfl (by decide) (L' := [(3, .int (x3 + 1)), (0, .ref 5), (1, .int x1), (2, .int x2)]) rfl ?_
      refine X_goto C dX2_gaps_29 (tgt := 4) (by decide) ?_
      refine X_loc [1, 2, 3, 0] rfl ?_
      exact h
    · replace h := h.2 c
      refine X_iinc C dX2_gaps_23 (j := 2) rfl (v := x2 + 1) rfl (by decide) (L' := [(2, .int (x2 + 1)), (0, .ref 5), (1, .int x1), (3, .int x3)]) rfl ?_
      refine X_iinc C dX2_gaps_26 (j := 3) rfl (v := x3 + 1) rfl (by decide) (L' := [(3, .int (x3 + 1)), (2, .int (x2 + 1)), (0, .ref 5), (1, .int x1)]) rfl ?_
      refine X_goto C dX2_gaps_29 (tgt := 4) (by decide) ?_
      refine X_loc [2, 3, 1, 0] rfl ?_
      exact h
set_option maxHeartbeats 4000000 in
set_option maxRecDepth 100000 in
theorem eX2_gaps {d : Nat} {Q : Option Value → xSt → Prop} (a1 : Int32) (st : xSt) (h : ∀ κ : xK, Cx κ M_X2_gaps (d + 1) → xR κ Q → X κ 4 [(0, .ref 5), (1, .int a1), (2, .int 0), (3, .int 0)] [] st) : Ct (d + 1) M_X2_gaps [.ref 5, .int a1] st Q := by
  refine Ct_of (by decide +kernel) (Nat.le_of_ble_eq_true rfl) (fun κ C Z => ?_)
  replace h := h κ C Z
  show X κ 0 [(0, .ref 5), (1, .int a1)] [] st
  refine X_iconst C (v := 0) (by decide) dX2_gaps_0 ?_
  refine X_istore_n C dX2_gaps_1 rfl (by decide) (L' := [(2, .int 0), (0, .ref 5), (1, .int a1)]) rfl ?_
  refine X_iconst C (v := 0) (by decide) dX2_gaps_2 ?_
  refine X_istore_n C dX2_gaps_3 rfl (by decide) (L' := [(3, .int 0), (2, .int 0), (0, .ref 5), (1, .int a1)]) rfl ?_
  refine X_loc [2, 3, 1, 0] rfl ?_
  exact h
set_option maxHeartbeats 4000000 in
set_option maxRecDepth 100000 in
theorem eX2_couldBeOfTens {d : Nat} {Q : Option Value → xSt → Prop} (a1 : Int32) (a2 : Int32) (st : xSt) (h : ((a2 < 10 → Q (some (.int 0)) st) ∧ (¬ a2 < 10 → Ct d M_X2_item [.ref 5, .int a1, .int a2] st (Qi fun v2 s1 => ((v2 = ((-1)) → Q (some (.int 0)) s1) ∧ (¬ v2 = ((-1)) → Ct d M_X2_item [.ref 5, .int a1, .int (a2 - a2 / 10 * 10)] s1 (Qi fun v4 s3 => ((v4 = ((-1)) → Q (some (.int 0)) s3) ∧ (¬ v4 = ((-1)) → Q (some (.int 1)) s3))))))))) : Ct (d + 1) M_X2_couldBeOfTens [.ref 5, .int a1, .int a2] st Q := by
  refine Ct_of (by decide +kernel) (Nat.le_of_ble_eq_true rfl) (fun κ C Z => ?_)
  show X κ 0 [(0, .ref 5), (1, .int a1), (2, .int a2)] [] st
  refine X_iload_n C dX2_couldBeOfTens_0 rfl (j := 2) rfl ?_
  refine X_bipush C (v := 10) (by decide) dX2_couldBeOfTens_1 ?_
  refine X_icmp_lt C dX2_couldBeOfTens_3 (tgt := 33) (by decide) (fun c => ?_) (fun c => ?_)
  · replace h := h.1 c
    refine X_iconst C (v := 0) (by decide) dX2_couldBeOfTens_33 ?_
    exact X_zret C Z rfl (by decide) dX2_couldBeOfTens_34 h
  · replace h := h.2 c
    refine X_aload_n C dX2_couldBeOfTens_6 rfl (j := 0) rfl ?_
    refine X_iload_n C dX2_couldBeOfTens_7 rfl (j := 1) rfl ?_
    refine X_iload_n C dX2_couldBeOfTens_8 rfl (j := 2) rfl ?_
    refine X_callV C dX2_couldBeOfTens_9 pw_RX2_55 (b := 5) (as := [.int a1, .int a2]) (S := []) sh_5 rfl rfl rfl (Nat.le_of_ble_eq_true rfl) (Ct_mono h ?_)
    rintro _ s1 ⟨v2, rfl, h⟩
    show X κ 12 [(0, .ref 5), (1, .int a1), (2, .int a2)] [.int v2] s1
    refine X_iconst C (v := (-1)) (by decide) dX2_couldBeOfTens_12 ?_
    refine X_icmp_eq C dX2_couldBeOfTens_13 (tgt := 33) (by decide) (fun c => ?_) (fun c => ?_)
    · replace h := h.1 c
      refine X_iconst C (v := 0) (by decide) dX2_couldBeOfTens_33 ?_
      exact X_zret C Z rfl (by decide) dX2_couldBeOfTens_34 h
    · replace h := h.2 c
      refine X_aload_n C dX2_couldBeOfTens_16 rfl (j := 0) rfl ?_
      refine X_iload_n C dX2_couldBeOfTens_17 rfl (j := 1) rfl ?_
      refine X_iload_n C dX2_couldBeOfTens_18 rfl (j := 2) rfl ?_
      refine X_bipush C (v := 10) (by decide) dX2_couldBeOfTens_19 ?_
      refine X_irem C (by decide) dX2_couldBeOfTens_21 ?_
      refine X_callV C dX2_couldBeOfTens_22 pw_RX2_55 (b := 5) (as := [.int a1, .int (a2 - a2 / 10 * 10)]) (S := []) sh_5 rfl rfl rfl (Nat.le_of_ble_eq_true rfl) (Ct_mono h ?_)
      rintro _ s3 ⟨v4, rfl, h⟩
      show X κ 25 [(0, .ref 5), (1, .int a1), (2, .int a2)] [.int v4] s3
      refine X_iconst C (v := (-1)) (by decide) dX2_couldBeOfTens_25 ?_
      refine X_icmp_eq C dX2_couldBeOfTens_26 (tgt := 33) (by decide) (fun c => ?_) (fun c => ?_)
      · replace h := h.1 c
        refine X_iconst C (v := 0) (by decide) dX2_couldBeOfTens_33 ?_
        exact X_zret C Z rfl (by decide) dX2_couldBeOfTens_34 h
      · replace h := h.2 c
        refine X_iconst C (v := 1) (by decide) dX2_couldBeOfTens_29 ?_
        refine X_goto C dX2_couldBeOfTens_30 (tgt := 34) (by decide) ?_
        exact X_zret C Z rfl (by decide) dX2_couldBeOfTens_34 h
set_option maxHeartbeats 4000000 in
set_option maxRecDepth 100000 in
theorem bX2_ofTens_5 {κ : xK} {d : Nat} {Q : Option Value → xSt → Prop} (C : Cx κ M_X2_ofTens (d + 1)) (Z : xR κ Q) (x1 : Int32) (x2 : Int32) (x3 : Int32) (st : xSt) (h : Ct d M_X2_lengthOf [.ref 5, .int x1] st (Qi fun v2 s1 => ((v2 ≤ x3 → Q (some (.int x2)) s1) ∧ (¬ v2 ≤ x3 → Ct d M_X2_couldBeOfTens [.ref 5, .int x1, .int x3] s1 (Qi fun v4 s3 => ((v4 = 0 → X κ 5 [(0, .ref 5), (1, .int x1), (2, .int x2), (3, .int (x3 + 1))] [] s3) ∧ (¬ v4 = 0 → Ct d M_X2_item [.ref 5, .int x1, .int x3] s3 (Qi fun v6 s5 => Ct d M_X2_item [.ref 5, .int x1, .int (x3 - x3 / 10 * 10)] s5 (Qi fun v8 s7 => ((¬ v6 = v8 → X κ 5 [(0, .ref 5), (1, .int x1), (2, .int x2), (3, .int (x3 + 1))] [] s7) ∧ (v6 = v8 → X κ 5 [(0, .ref 5), (1, .int x1), (2, .int (x2 + 1)), (3, .int (x3 + 1))] [] s7))))))))))) : X κ 5 [(0, .ref 5), (1, .int x1), (2, .int x2), (3, .int x3)] [] st := by
  refine X_iload_n C dX2_ofTens_5 rfl (j := 3) rfl ?_
  refine X_aload_n C dX2_ofTens_6 rfl (j := 0) rfl ?_
  refine X_iload_n C dX2_ofTens_7 rfl (j := 1) rfl ?_
  refine X_callV C dX2_ofTens_8 pw_RX2_51 (b := 5) (as := [.int x1]) (S := [.int x3]) sh_5 rfl rfl rfl (Nat.le_of_ble_eq_true rfl) (Ct_mono h ?_)
  rintro _ s1 ⟨v2, rfl, h⟩
  show X κ 11 [(0, .ref 5), (1, .int x1), (2, .int x2), (3, .int x3)] [.int v2, .int x3] s1
  refine X_icmp_ge C dX2_ofTens_11 (tgt := 50) (by decide) (fun c => ?_) (fun c => ?_)
  · replace h := h.1 c
    refine X_iload_n C dX2_ofTens_50 rfl (j := 2) rfl ?_
    exact X_iret C Z rfl dX2_ofTens_51 h
  · replace h := h.2 c
    refine X_aload_n C dX2_ofTens_14 rfl (j := 0) rfl ?_
    refine X_iload_n C dX2_ofTens_15 rfl (j := 1) rfl ?_
    refine X_iload_n C dX2_ofTens_16 rfl (j := 3) rfl ?_
    refine X_callV C dX2_ofTens_17 pw_RX2_58 (b := 5) (as := [.int x1, .int x3]) (S := []) sh_5 rfl rfl rfl (Nat.le_of_ble_eq_true rfl) (Ct_mono h ?_)
    rintro _ s3 ⟨v4, rfl, h⟩
    show X κ 20 [(0, .ref 5), (1, .int x1), (2, .int x2), (3, .int x3)] [.int v4] s3
    refine X_if_eq C dX2_ofTens_20 (tgt := 44) (by decide) (fun c => ?_) (fun c => ?_)
    · replace h := h.1 c
      refine X_iinc C dX2_ofTens_44 (j := 3) rfl (v := x3 + 1) rfl (by decide) (L' := [(3, .int (x3 + 1)), (0, .ref 5), (1, .int x1), (2, .int x2)]) rfl ?_
      refine X_goto C dX2_ofTens_47 (tgt := 5) (by decide) ?_
      refine X_loc [1, 2, 3, 0] rfl ?_
      exact h
    · replace h := h.2 c
      refine X_aload_n C dX2_ofTens_23 rfl (j := 0) rfl ?_
      refine X_iload_n C dX2_ofTens_24 rfl (j := 1) rfl ?_
      refine X_iload_n C dX2_ofTens_25 rfl (j := 3) rfl ?_
      refine X_callV C dX2_ofTens_26 pw_RX2_55 (b := 5) (as := [.int x1, .int x3]) (S := []) sh_5 rfl rfl rfl (Nat.le_of_ble_eq_true rfl) (Ct_mono h ?_)
      rintro _ s5 ⟨v6, rfl, h⟩
      show X κ 29 [(0, .ref 5), (1, .int x1), (2, .int x2), (3, .int x3)] [.int v6] s5
      refine X_aload_n C dX2_ofTens_29 rfl (j := 0) rfl ?_
      refine X_iload_n C dX2_ofTens_30 rfl (j := 1) rfl ?_
      refine X_iload_n C dX2_ofTens_31 rfl (j := 3) rfl ?_
      refine X_bipush C (v := 10) (by decide) dX2_ofTens_32 ?_
      refine X_irem C (by decide) dX2_ofTens_34 ?_
      refine X_callV C dX2_ofTens_35 pw_RX2_55 (b := 5) (as := [.int x1, .int (x3 - x3 / 10 * 10)]) (S := [.int v6]) sh_5 rfl rfl rfl (Nat.le_of_ble_eq_true rfl) (Ct_mono h ?_)
      rintro _ s7 ⟨v8, rfl, h⟩
      show X κ 38 [(0, .ref 5), (1, .int x1), (2, .int x2), (3, .int x3)] [.int v8, .int v6] s7
      refine X_icmp_ne C dX2_ofTens_38 (tgt := 44) (by decide) (fun c => ?_) (fun c => ?_)
      · replace h := h.1 c
        refine X_iinc C dX2_ofTens_44 (j := 3) rfl (v := x3 + 1) rfl (by decide) (L' := [(3, .int (x3 + 1)), (0, .ref 5), (1, .int x1), (2, .int x2)]) rfl ?_
        refine X_goto C dX2_ofTens_47 (tgt := 5) (by decide) ?_
        refine X_loc [1, 2, 3, 0] rfl ?_
        exact h
      · replace h := h.2 c
        refine X_iinc C dX2_ofTens_41 (j := 2) rfl (v := x2 + 1) rfl (by decide) (L' := [(2, .int (x2 + 1)), (0, .ref 5), (1, .int x1), (3, .int x3)]) rfl ?_
        refine X_iinc C dX2_ofTens_44 (j := 3) rfl (v := x3 + 1) rfl (by decide) (L' := [(3, .int (x3 + 1)), (2, .int (x2 + 1)), (0, .ref 5), (1, .int x1)]) rfl ?_
        refine X_goto C dX2_ofTens_47 (tgt := 5) (by decide) ?_
        refine X_loc [2, 3, 1, 0] rfl ?_
        exact h
set_option maxHeartbeats 4000000 in
set_option maxRecDepth 100000 in
theorem eX2_ofTens {d : Nat} {Q : Option Value → xSt → Prop} (a1 : Int32) (st : xSt) (h : ∀ κ : xK, Cx κ M_X2_ofTens (d + 1) → xR κ Q → X κ 5 [(0, .ref 5), (1, .int a1), (2, .int 0), (3, .int 10)] [] st) : Ct (d + 1) M_X2_ofTens [.ref 5, .int a1] st Q := by
  refine Ct_of (by decide +kernel) (Nat.le_of_ble_eq_true rfl) (fun κ C Z => ?_)
  replace h := h κ C Z
  show X κ 0 [(0, .ref 5), (1, .int a1)] [] st
  refine X_iconst C (v := 0) (by decide) dX2_ofTens_0 ?_
  refine X_istore_n C dX2_ofTens_1 rfl (by decide) (L' := [(2, .int 0), (0, .ref 5), (1, .int a1)]) rfl ?_
  refine X_bipush C (v := 10) (by decide) dX2_ofTens_2 ?_
  refine X_istore_n C dX2_ofTens_4 rfl (by decide) (L' := [(3, .int 10), (2, .int 0), (0, .ref 5), (1, .int a1)]) rfl ?_
  refine X_loc [2, 3, 1, 0] rfl ?_
  exact h
set_option maxHeartbeats 4000000 in
set_option maxRecDepth 100000 in
theorem bX2_isShopped_5 {κ : xK} {d : Nat} {Q : Option Value → xSt → Prop} (C : Cx κ M_X2_isShopped (d + 1)) (Z : xR κ Q) (x1 : Int32) (x2 : Int32) (x3 : Int32) (st : xSt) (h : Ct d M_X2_lengthOf [.ref 5, .int x1] st (Qi fun v2 s1 => ((v2 ≤ x3 → ((x2 ≤ 0 → Q (some (.int 0)) s1) ∧ (¬ x2 ≤ 0 → Ct d M_X2_ofTens [.ref 5, .int x1] s1 (Qi fun v4 s3 => (((2 * v4) < x2 → Q (some (.int 0)) s3) ∧ (¬ (2 * v4) < x2 → Q (some (.int 1)) s3)))))) ∧ (¬ v2 ≤ x3 → Ct d M_X2_couldBeOfTens [.ref 5, .int x1, .int x3] s1 (Qi fun v6 s5 => ((v6 = 0 → X κ 5 [(0, .ref 5), (1, .int x1), (2, .int x2), (3, .int (x3 + 1))] [] s5) ∧ (¬ v6 = 0 → X κ 5 [(0, .ref 5), (1, .int x1), (2, .int (x2 + 1)), (3, .int (x3 + 1))] [] s5))))))) : X κ 5 [(0, .ref 5), (1, .int x1), (2, .int x2), (3, .int x3)] [] st := by
  refine X_iload_n C dX2_isShopped_5 rfl (j := 3) rfl ?_
  refine X_aload_n C dX2_isShopped_6 rfl (j := 0) rfl ?_
  refine X_iload_n C dX2_isShopped_7 rfl (j := 1) rfl ?_
  refine X_callV C dX2_isShopped_8 pw_RX2_51 (b := 5) (as := [.int x1]) (S := [.int x3]) sh_5 rfl rfl rfl (Nat.le_of_ble_eq_true rfl) (Ct_mono h ?_)
  rintro _ s1 ⟨v2, rfl, h⟩
  show X κ 11 [(0, .ref 5), (1, .int x1), (2, .int x2), (3, .int x3)] [.int v2, .int x3] s1
  refine X_icmp_ge C dX2_isShopped_11 (tgt := 32) (by decide) (fun c => ?_) (fun c => ?_)
  · replace h := h.1 c
    refine X_iload_n C dX2_isShopped_32 rfl (j := 2) rfl ?_
    refine X_if_le C dX2_isShopped_33 (tgt := 51) (by decide) (fun c => ?_) (fun c => ?_)
    · replace h := h.1 c
      refine X_iconst C (v := 0) (by decide) dX2_isShopped_51 ?_
      exact X_zret C Z rfl (by decide) dX2_isShopped_52 h
    · replace h := h.2 c
      refine X_iconst C (v := 2) (by decide) dX2_isShopped_36 ?_
      refine X_aload_n C dX2_isShopped_37 rfl (j := 0) rfl ?_
      refine X_iload_n C dX2_isShopped_38 rfl (j := 1) rfl ?_
      refine X_callV C dX2_isShopped_39 pw_RX2_62 (b := 5) (as := [.int x1]) (S := [.int 2]) sh_5 rfl rfl rfl (Nat.le_of_ble_eq_true rfl) (Ct_mono h ?_)
      rintro _ s3 ⟨v4, rfl, h⟩
      show X κ 42 [(0, .ref 5), (1, .int x1), (2, .int x2), (3, .int x3)] [.int v4, .int 2] s3
      refine X_imul C dX2_isShopped_42 ?_
      refine X_iload_n C dX2_isShopped_43 rfl (j := 2) rfl ?_
      refine X_icmp_lt C dX2_isShopped_44 (tgt := 51) (by decide) (fun c => ?_) (fun c => ?_)
      · replace h := h.1 c
        refine X_iconst C (v := 0) (by decide) dX2_isShopped_51 ?_
        exact X_zret C Z rfl (by decide) dX2_isShopped_52 h
      · replace h := h.2 c
        refine X_iconst C (v := 1) (by decide) dX2_isShopped_47 ?_
        refine X_goto C dX2_isShopped_48 (tgt := 52) (by decide) ?_
        exact X_zret C Z rfl (by decide) dX2_isShopped_52 h
  · replace h := h.2 c
    refine X_aload_n C dX2_isShopped_14 rfl (j := 0) rfl ?_
    refine X_iload_n C dX2_isShopped_15 rfl (j := 1) rfl ?_
    refine X_iload_n C dX2_isShopped_16 rfl (j := 3) rfl ?_
    refine X_callV C dX2_isShopped_17 pw_RX2_58 (b := 5) (as := [.int x1, .int x3]) (S := []) sh_5 rfl rfl rfl (Nat.le_of_ble_eq_true rfl) (Ct_mono h ?_)
    rintro _ s5 ⟨v6, rfl, h⟩
    show X κ 20 [(0, .ref 5), (1, .int x1), (2, .int x2), (3, .int x3)] [.int v6] s5
    refine X_if_eq C dX2_isShopped_20 (tgt := 26) (by decide) (fun c => ?_) (fun c => ?_)
    · replace h := h.1 c
      refine X_iinc C dX2_isShopped_26 (j := 3) rfl (v := x3 + 1) rfl (by decide) (L' := [(3, .int (x3 + 1)), (0, .ref 5), (1, .int x1), (2, .int x2)]) rfl ?_
      refine X_goto C dX2_isShopped_29 (tgt := 5) (by decide) ?_
      refine X_loc [1, 2, 3, 0] rfl ?_
      exact h
    · replace h := h.2 c
      refine X_iinc C dX2_isShopped_23 (j := 2) rfl (v := x2 + 1) rfl (by decide) (L' := [(2, .int (x2 + 1)), (0, .ref 5), (1, .int x1), (3, .int x3)]) rfl ?_
      refine X_iinc C dX2_isShopped_26 (j := 3) rfl (v := x3 + 1) rfl (by decide) (L' := [(3, .int (x3 + 1)), (2, .int (x2 + 1)), (0, .ref 5), (1, .int x1)]) rfl ?_
      refine X_goto C dX2_isShopped_29 (tgt := 5) (by decide) ?_
      refine X_loc [2, 3, 1, 0] rfl ?_
      exact h
set_option maxHeartbeats 4000000 in
set_option maxRecDepth 100000 in
theorem eX2_isShopped {d : Nat} {Q : Option Value → xSt → Prop} (a1 : Int32) (st : xSt) (h : ∀ κ : xK, Cx κ M_X2_isShopped (d + 1) → xR κ Q → X κ 5 [(0, .ref 5), (1, .int a1), (2, .int 0), (3, .int 10)] [] st) : Ct (d + 1) M_X2_isShopped [.ref 5, .int a1] st Q := by
  refine Ct_of (by decide +kernel) (Nat.le_of_ble_eq_true rfl) (fun κ C Z => ?_)
  replace h := h κ C Z
  show X κ 0 [(0, .ref 5), (1, .int a1)] [] st
  refine X_iconst C (v := 0) (by decide) dX2_isShopped_0 ?_
  refine X_istore_n C dX2_isShopped_1 rfl (by decide) (L' := [(2, .int 0), (0, .ref 5), (1, .int a1)]) rfl ?_
  refine X_bipush C (v := 10) (by decide) dX2_isShopped_2 ?_
  refine X_istore_n C dX2_isShopped_4 rfl (by decide) (L' := [(3, .int 10), (2, .int 0), (0, .ref 5), (1, .int a1)]) rfl ?_
  refine X_loc [2, 3, 1, 0] rfl ?_
  exact h
set_option maxHeartbeats 4000000 in
set_option maxRecDepth 100000 in
theorem bX2_distance_14 {κ : xK} {d : Nat} {Q : Option Value → xSt → Prop} (C : Cx κ M_X2_distance (d + 1)) (Z : xR κ Q) (x1 : Int32) (x2 : Int32) (x3 : Int32) (x4 : Int32) (st : xSt) (h : ((x3 < x4 → X κ 40 [(0, .ref 5), (1, .int x1), (2, .int x2), (3, .int x3), (4, .int 1)] [] st) ∧ (¬ x3 < x4 → vp_in x4 31 ∧ X κ 14 [(0, .ref 5), (1, .int x1), (2, .int x2), (3, .int x3), (4, .int (x4 + 1))] [] (xup st 25 (x4 : Int32).toNatClampNeg (2 * x4))))) : X κ 14 [(0, .ref 5), (1, .int x1), (2, .int x2), (3, .int x3), (4, .int x4)] [] st := by
  refine X_iload C dX2_distance_14 (j := 4) rfl ?_
  refine X_iload_n C dX2_distance_16 rfl (j := 3) rfl ?_
  refine X_icmp_gt C dX2_distance_17 (tgt := 37) (by decide) (fun c => ?_) (fun c => ?_)
  · replace h := h.1 c
    refine X_iconst C (v := 1) (by decide) dX2_distance_37 ?_
    refine X_istore C dX2_distance_38 (by decide) (L' := [(4, .int 1), (0, .ref 5), (1, .int x1), (2, .int x2), (3, .int x3)]) rfl ?_
    refine X_loc [1, 2, 3, 4, 0] rfl ?_
    exact h
  · replace h := h.2 c
    refine X_aload_n C dX2_distance_20 rfl (j := 0) rfl ?_
    refine X_getR C sh_5 rfl fw_RX2_23 dX2_distance_21 ?_
    refine X_iload C dX2_distance_24 (j := 4) rfl ?_
    refine X_iconst C (v := 2) (by decide) dX2_distance_26 ?_
    refine X_iload C dX2_distance_27 (j := 4) rfl ?_
    refine X_imul C dX2_distance_29 ?_
    obtain ⟨g1, h⟩ := h
    refine X_iast C sh_25 g1 dX2_distance_30 ?_
    refine X_iinc C dX2_distance_31 (j := 4) rfl (v := x4 + 1) rfl (by decide) (L' := [(4, .int (x4 + 1)), (0, .ref 5), (1, .int x1), (2, .int x2), (3, .int x3)]) rfl ?_
    refine X_goto C dX2_distance_34 (tgt := 14) (by decide) ?_
    refine X_loc [1, 2, 3, 4, 0] rfl ?_
    exact h
set_option maxHeartbeats 4000000 in
set_option maxRecDepth 100000 in
theorem bX2_distance_40 {κ : xK} {d : Nat} {Q : Option Value → xSt → Prop} (C : Cx κ M_X2_distance (d + 1)) (Z : xR κ Q) (x1 : Int32) (x2 : Int32) (x3 : Int32) (x4 : Int32) (st : xSt) (h : Ct d M_X2_lengthOf [.ref 5, .int x1] st (Qi fun v2 s1 => ((v2 < x4 → vp_in x3 31 ∧ Q (some (.int (s1.1 25 (x3 : Int32).toNatClampNeg))) s1) ∧ (¬ v2 < x4 → X κ 63 [(0, .ref 5), (1, .int x1), (2, .int x2), (3, .int x3), (4, .int x4), (5, .int 1)] [] (xup s1 26 (0 : Int32).toNatClampNeg (2 * x4)))))) : X κ 40 [(0, .ref 5), (1, .int x1), (2, .int x2), (3, .int x3), (4, .int x4)] [] st := by
  refine X_iload C dX2_distance_40 (j := 4) rfl ?_
  refine X_aload_n C dX2_distance_42 rfl (j := 0) rfl ?_
  refine X_iload_n C dX2_distance_43 rfl (j := 1) rfl ?_
  refine X_callV C dX2_distance_44 pw_RX2_51 (b := 5) (as := [.int x1]) (S := [.int x4]) sh_5 rfl rfl rfl (Nat.le_of_ble_eq_true rfl) (Ct_mono h ?_)
  rintro _ s1 ⟨v2, rfl, h⟩
  show X κ 47 [(0, .ref 5), (1, .int x1), (2, .int x2), (3, .int x3), (4, .int x4)] [.int v2, .int x4] s1
  refine X_icmp_gt C dX2_distance_47 (tgt := 163) (by decide) (fun c => ?_) (fun c => ?_)
  · replace h := h.1 c
    refine X_aload_n C dX2_distance_163 rfl (j := 0) rfl ?_
    refine X_getR C sh_5 rfl fw_RX2_23 dX2_distance_164 ?_
    refine X_iload_n C dX2_distance_167 rfl (j := 3) rfl ?_
    obtain ⟨g3, h⟩ := h
    refine X_iald C sh_25 g3 dX2_distance_168 ?_
    exact X_iret C Z rfl dX2_distance_169 h
  · replace h := h.2 c
    refine X_aload_n C dX2_distance_50 rfl (j := 0) rfl ?_
    refine X_getR C sh_5 rfl fw_RX2_26 dX2_distance_51 ?_
    refine X_iconst C (v := 0) (by decide) dX2_distance_54 ?_
    refine X_iconst C (v := 2) (by decide) dX2_distance_55 ?_
    refine X_iload C dX2_distance_56 (j := 4) rfl ?_
    refine X_imul C dX2_distance_58 ?_
    refine X_iast C sh_26 (by unfold vp_in; decide) dX2_distance_59 ?_
    refine X_iconst C (v := 1) (by decide) dX2_distance_60 ?_
    refine X_istore C dX2_distance_61 (by decide) (L' := [(5, .int 1), (0, .ref 5), (1, .int x1), (2, .int x2), (3, .int x3), (4, .int x4)]) rfl ?_
    refine X_loc [1, 2, 3, 4, 5, 0] rfl ?_
    exact h
set_option maxHeartbeats 4000000 in
set_option maxRecDepth 100000 in
theorem bX2_distance_63 {κ : xK} {d : Nat} {Q : Option Value → xSt → Prop} (C : Cx κ M_X2_distance (d + 1)) (Z : xR κ Q) (x1 : Int32) (x2 : Int32) (x3 : Int32) (x4 : Int32) (x5 : Int32) (st : xSt) (h : ((x3 < x5 → (¬ (0 : Int32) < 0 ∧ ¬ (0 : Int32) < 0 ∧ ¬ (x3 + 1 : Int32) < 0 ∧ (0 : Int32).toNatClampNeg + (x3 + 1 : Int32).toNatClampNeg ≤ 31 ∧ (0 : Int32).toNatClampNeg + (x3 + 1 : Int32).toNatClampNeg ≤ 31) ∧ X κ 40 [(0, .ref 5), (1, .int x1), (2, .int x2), (3, .int x3), (4, .int (x4 + 1))] [] (xcp st 26 25 (0 : Int32).toNatClampNeg (0 : Int32).toNatClampNeg (x3 + 1 : Int32).toNatClampNeg)) ∧ (¬ x3 < x5 → vp_in (x5 - 1) 31 ∧ Ct d M_X2_item [.ref 5, .int x1, .int (x4 - 1)] st (Qi fun v3 s2 => Ct d M_X2_item [.ref 5, .int x2, .int (x5 - 1)] s2 (Qi fun v5 s4 => Ct d M_X2_unlike [.int v3, .int v5] s4 (Qi fun v7 s6 => vp_in x5 31 ∧ vp_in (x5 - 1) 31 ∧ vp_in x5 31 ∧ X κ 63 [(0, .ref 5), (1, .int x1), (2, .int x2), (3, .int x3), (4, .int x4), (5, .int (x5 + 1))] [] (xup s6 26 (x5 : Int32).toNatClampNeg (imin ((st.1 25 (x5 - 1 : Int32).toNatClampNeg) + v7) (2 + (imin (s6.1 25 (x5 : Int32).toNatClampNeg) (s6.1 26 (x5 - 1 : Int32).toNatClampNeg))))))))))) : X κ 63 [(0, .ref 5), (1, .int x1), (2, .int x2), (3, .int x3), (4, .int x4), (5, .int x5)] [] st := by
  refine X_iload C dX2_distance_63 (j := 5) rfl ?_
  refine X_iload_n C dX2_distance_65 rfl (j := 3) rfl ?_
  refine X_icmp_gt C dX2_distance_66 (tgt := 141) (by decide) (fun c => ?_) (fun c => ?_)
  · replace h := h.1 c
    refine X_aload_n C dX2_distance_141 rfl (j := 0) rfl ?_
    refine X_getR C sh_5 rfl fw_RX2_26 dX2_distance_142 ?_
    refine X_iconst C (v := 0) (by decide) dX2_distance_145 ?_
    refine X_aload_n C dX2_distance_146 rfl (j := 0) rfl ?_
    refine X_getR C sh_5 rfl fw_RX2_23 dX2_distance_147 ?_
    refine X_iconst C (v := 0) (by decide) dX2_distance_150 ?_
    refine X_iload_n C dX2_distance_151 rfl (j := 3) rfl ?_
    refine X_iconst C (v := 1) (by decide) dX2_distance_152 ?_
    refine X_iadd C dX2_distance_153 ?_
    obtain ⟨⟨z1, z2, z3, z4, z5⟩, h⟩ := h
    refine X_copy C dX2_distance_154 cc_RX2_73 sh_26 sh_25 z1 z2 z3 z4 z5 (Nat.le_of_ble_eq_true rfl) ?_
    refine X_iinc C dX2_distance_157 (j := 4) rfl (v := x4 + 1) rfl (by decide) (L' := [(4, .int (x4 + 1)), (0, .ref 5), (1, .int x1), (2, .int x2), (3, .int x3), (5, .int x5)]) rfl ?_
    refine X_goto C dX2_distance_160 (tgt := 40) (by decide) ?_
    refine X_loc [1, 2, 3, 4, 0] rfl ?_
    exact h
  · replace h := h.2 c
    refine X_aload_n C dX2_distance_69 rfl (j := 0) rfl ?_
    refine X_getR C sh_5 rfl fw_RX2_23 dX2_distance_70 ?_
    refine X_iload C dX2_distance_73 (j := 5) rfl ?_
    refine X_iconst C (v := 1) (by decide) dX2_distance_75 ?_
    refine X_isub C dX2_distance_76 ?_
    obtain ⟨g1, h⟩ := h
    refine X_iald C sh_25 g1 dX2_distance_77 ?_
    refine X_aload_n C dX2_distance_78 rfl (j := 0) rfl ?_
    refine X_iload_n C dX2_distance_79 rfl (j := 1) rfl ?_
    refine X_iload C dX2_distance_80 (j := 4) rfl ?_
    refine X_iconst C (v := 1) (by decide) dX2_distance_82 ?_
    refine X_isub C dX2_distance_83 ?_
    refine X_callV C dX2_distance_84 pw_RX2_55 (b := 5) (as := [.int x1, .int (x4 - 1)]) (S := [.int (st.1 25 (x5 - 1 : Int32).toNatClampNeg)]) sh_5 rfl rfl rfl (Nat.le_of_ble_eq_true rfl) (Ct_mono h ?_)
    rintro _ s2 ⟨v3, rfl, h⟩
    show X κ 87 [(0, .ref 5), (1, .int x1), (2, .int x2), (3, .int x3), (4, .int x4), (5, .int x5)] [.int v3, .int (st.1 25 (x5 - 1 : Int32).toNatClampNeg)] s2
    refine X_aload_n C dX2_distance_87 rfl (j := 0) rfl ?_
    refine X_iload_n C dX2_distance_88 rfl (j := 2) rfl ?_
    refine X_iload C dX2_distance_89 (j := 5) rfl ?_
    refine X_iconst C (v := 1) (by decide) dX2_distance_91 ?_
    refine X_isub C dX2_distance_92 ?_
    refine X_callV C dX2_distance_93 pw_RX2_55 (b := 5) (as := [.int x2, .int (x5 - 1)]) (S := [.int v3, .int (st.1 25 (x5 - 1 : Int32).toNatClampNeg)]) sh_5 rfl rfl rfl (Nat.le_of_ble_eq_true rfl) (Ct_mono h ?_)
    rintro _ s4 ⟨v5, rfl, h⟩
    show X κ 96 [(0, .ref 5), (1, .int x1), (2, .int x2), (3, .int x3), (4, .int x4), (5, .int x5)] [.int v5, .int v3, .int (st.1 25 (x5 - 1 : Int32).toNatClampNeg)] s4
    refine X_callS C dX2_distance_96 pw_RX2_70 (as := [.int v3, .int v5]) (S := [.int (st.1 25 (x5 - 1 : Int32).toNatClampNeg)]) rfl rfl (Nat.le_of_ble_eq_true rfl) (Ct_mono h ?_)
    rintro _ s6 ⟨v7, rfl, h⟩
    show X κ 99 [(0, .ref 5), (1, .int x1), (2, .int x2), (3, .int x3), (4, .int x4), (5, .int x5)] [.int v7, .int (st.1 25 (x5 - 1 : Int32).toNatClampNeg)] s6
    refine X_iadd C dX2_distance_99 ?_
    refine X_istore C dX2_distance_100 (by decide) (L' := [(6, .int ((st.1 25 (x5 - 1 : Int32).toNatClampNeg) + v7)), (0, .ref 5), (1, .int x1), (2, .int x2), (3, .int x3), (4, .int x4), (5, .int x5)]) rfl ?_
    refine X_aload_n C dX2_distance_102 rfl (j := 1) rfl ?_
    refine X_getR C sh_5 rfl fw_RX2_26 dX2_distance_103 ?_
    refine X_iload C dX2_distance_106 (j := 6) rfl ?_
    refine X_iload C dX2_distance_108 (j := 0) rfl ?_
    refine X_iconst C (v := 2) (by decide) dX2_distance_110 ?_
    refine X_aload_n C dX2_distance_111 rfl (j := 1) rfl ?_
    refine X_getR C sh_5 rfl fw_RX2_23 dX2_distance_112 ?_
    refine X_iload C dX2_distance_115 (j := 6) rfl ?_
    obtain ⟨g8, h⟩ := h
    refine X_iald C sh_25 g8 dX2_distance_117 ?_
    refine X_aload_n C dX2_distance_118 rfl (j := 1) rfl ?_
    refine X_getR C sh_5 rfl fw_RX2_26 dX2_distance_119 ?_
    refine X_iload C dX2_distance_122 (j := 6) rfl ?_
    refine X_iconst C (v := 1) (by decide) dX2_distance_124 ?_
    refine X_isub C dX2_distance_125 ?_
    obtain ⟨g9, h⟩ := h
    refine X_iald C sh_26 g9 dX2_distance_126 ?_
    refine X_mmin C dX2_distance_127 mm_RX2_65 (Nat.le_of_ble_eq_true rfl) ?_
    refine X_iadd C dX2_distance_130 ?_
    refine X_mmin C dX2_distance_131 mm_RX2_65 (Nat.le_of_ble_eq_true rfl) ?_
    obtain ⟨g14, h⟩ := h
    refine X_iast C sh_26 g14 dX2_distance_134 ?_
    refine X_iinc C dX2_distance_135 (j := 6) rfl (v := x5 + 1) rfl (by decide) (L' := [(5, .int (x5 + 1)), (6, .int ((st.1 25 (x5 - 1 : Int32).toNatClampNeg) + v7)), (0, .ref 5), (1, .int x1), (2, .int x2), (3, .int x3), (4, .int x4)]) rfl ?_
    refine X_goto C dX2_distance_138 (tgt := 63) (by decide) ?_
    refine X_loc [2, 3, 4, 5, 6, 0] rfl ?_
    exact h
set_option maxHeartbeats 4000000 in
set_option maxRecDepth 100000 in
theorem eX2_distance {d : Nat} {Q : Option Value → xSt → Prop} (a1 : Int32) (a2 : Int32) (st : xSt) (h : ∀ κ : xK, Cx κ M_X2_distance (d + 1) → xR κ Q → Ct d M_X2_lengthOf [.ref 5, .int a2] st (Qi fun v2 s1 => X κ 14 [(0, .ref 5), (1, .int a1), (2, .int a2), (3, .int (imin v2 30)), (4, .int 0)] [] s1)) : Ct (d + 1) M_X2_distance [.ref 5, .int a1, .int a2] st Q := by
  refine Ct_of (by decide +kernel) (Nat.le_of_ble_eq_true rfl) (fun κ C Z => ?_)
  replace h := h κ C Z
  show X κ 0 [(0, .ref 5), (1, .int a1), (2, .int a2)] [] st
  refine X_aload_n C dX2_distance_0 rfl (j := 0) rfl ?_
  refine X_iload_n C dX2_distance_1 rfl (j := 2) rfl ?_
  refine X_callV C dX2_distance_2 pw_RX2_51 (b := 5) (as := [.int a2]) (S := []) sh_5 rfl rfl rfl (Nat.le_of_ble_eq_true rfl) (Ct_mono h ?_)
  rintro _ s1 ⟨v2, rfl, h⟩
  show X κ 5 [(0, .ref 5), (1, .int a1), (2, .int a2)] [.int v2] s1
  refine X_bipush C (v := 30) (by decide) dX2_distance_5 ?_
  refine X_mmin C dX2_distance_7 mm_RX2_65 (Nat.le_of_ble_eq_true rfl) ?_
  refine X_istore_n C dX2_distance_10 rfl (by decide) (L' := [(3, .int (imin v2 30)), (0, .ref 5), (1, .int a1), (2, .int a2)]) rfl ?_
  refine X_iconst C (v := 0) (by decide) dX2_distance_11 ?_
  refine X_istore C dX2_distance_12 (by decide) (L' := [(4, .int 0), (3, .int (imin v2 30)), (0, .ref 5), (1, .int a1), (2, .int a2)]) rfl ?_
  refine X_loc [2, 3, 4, 1, 0] rfl ?_
  exact h
set_option maxHeartbeats 4000000 in
set_option maxRecDepth 100000 in
theorem eX2_unlike {d : Nat} {Q : Option Value → xSt → Prop} (a0 : Int32) (a1 : Int32) (st : xSt) (h : ((a0 = ((-1)) → Q (some (.int 0)) st) ∧ (¬ a0 = ((-1)) → ((a1 = ((-1)) → Q (some (.int 0)) st) ∧ (¬ a1 = ((-1)) → ((¬ a0 = a1 → Q (some (.int 3)) st) ∧ (a0 = a1 → Q (some (.int 0)) st))))))) : Ct (d) M_X2_unlike [.int a0, .int a1] st Q := by
  refine Ct_of (by decide +kernel) (Nat.le_of_ble_eq_true rfl) (fun κ C Z => ?_)
  show X κ 0 [(0, .int a0), (1, .int a1)] [] st
  refine X_iload_n C dX2_unlike_0 rfl (j := 0) rfl ?_
  refine X_iconst C (v := (-1)) (by decide) dX2_unlike_1 ?_
  refine X_icmp_eq C dX2_unlike_2 (tgt := 15) (by decide) (fun c => ?_) (fun c => ?_)
  · replace h := h.1 c
    refine X_iconst C (v := 0) (by decide) dX2_unlike_15 ?_
    refine X_goto C dX2_unlike_16 (tgt := 20) (by decide) ?_
    exact X_iret C Z rfl dX2_unlike_20 h
  · replace h := h.2 c
    refine X_iload_n C dX2_unlike_5 rfl (j := 1) rfl ?_
    refine X_iconst C (v := (-1)) (by decide) dX2_unlike_6 ?_
    refine X_icmp_eq C dX2_unlike_7 (tgt := 15) (by decide) (fun c => ?_) (fun c => ?_)
    · replace h := h.1 c
      refine X_iconst C (v := 0) (by decide) dX2_unlike_15 ?_
      refine X_goto C dX2_unlike_16 (tgt := 20) (by decide) ?_
      exact X_iret C Z rfl dX2_unlike_20 h
    · replace h := h.2 c
      refine X_iload_n C dX2_unlike_10 rfl (j := 0) rfl ?_
      refine X_iload_n C dX2_unlike_11 rfl (j := 1) rfl ?_
      refine X_icmp_ne C dX2_unlike_12 (tgt := 19) (by decide) (fun c => ?_) (fun c => ?_)
      · replace h := h.1 c
        refine X_iconst C (v := 3) (by decide) dX2_unlike_19 ?_
        exact X_iret C Z rfl dX2_unlike_20 h
      · replace h := h.2 c
        refine X_iconst C (v := 0) (by decide) dX2_unlike_15 ?_
        refine X_goto C dX2_unlike_16 (tgt := 20) (by decide) ?_
        exact X_iret C Z rfl dX2_unlike_20 h
set_option maxHeartbeats 4000000 in
set_option maxRecDepth 100000 in
theorem bX2_motherOf_7 {κ : xK} {d : Nat} {Q : Option Value → xSt → Prop} (C : Cx κ M_X2_motherOf (d + 1)) (Z : xR κ Q) (x1 : Int32) (x2 : Int32) (x3 : Int32) (x4 : Int32) (st : xSt) (h : (((st.1 5 5) ≤ x4 → Q (some (.int x2)) st) ∧ (¬ (st.1 5 5) ≤ x4 → Ct d M_X2_yearOf [.ref 5, .int x4] st (Qi fun v2 s1 => Ct d M_X2_yearOf [.ref 5, .int x1] s1 (Qi fun v4 s3 => ((v4 ≤ v2 → X κ 7 [(0, .ref 5), (1, .int x1), (2, .int x2), (3, .int x3), (4, .int (x4 + 1))] [] s3) ∧ (¬ v4 ≤ v2 → Ct d M_X2_distance [.ref 5, .int x4, .int x1] s3 (Qi fun v6 s5 => ((x2 = ((-1)) → X κ 7 [(0, .ref 5), (1, .int x1), (2, .int x4), (3, .int v6), (4, .int (x4 + 1))] [] s5) ∧ (¬ x2 = ((-1)) → ((v6 < x3 → X κ 7 [(0, .ref 5), (1, .int x1), (2, .int x4), (3, .int v6), (4, .int (x4 + 1))] [] s5) ∧ (¬ v6 < x3 → ((¬ v6 = x3 → X κ 7 [(0, .ref 5), (1, .int x1), (2, .int x2), (3, .int x3), (4, .int (x4 + 1))] [] s5) ∧ (v6 = x3 → Ct d M_X2_yearOf [.ref 5, .int x4] s5 (Qi fun v8 s7 => Ct d M_X2_yearOf [.ref 5, .int x2] s7 (Qi fun v10 s9 => ((v8 ≤ v10 → X κ 7 [(0, .ref 5), (1, .int x1), (2, .int x2), (3, .int x3), (4, .int (x4 + 1))] [] s9) ∧ (¬ v8 ≤ v10 → X κ 7 [(0, .ref 5), (1, .int x1), (2, .int x4), (3, .int v6), (4, .int (x4 + 1))] [] s9)))))))))))))))))) : X κ 7 [(0, .ref 5), (1, .int x1), (2, .int x2), (3, .int x3), (4, .int x4)] [] st := by
  refine X_iload C dX2_motherOf_7 (j := 4) rfl ?_
  refine X_aload_n C dX2_motherOf_9 rfl (j := 0) rfl ?_
  refine X_getI C sh_5 rfl fw_RX2_29 dX2_motherOf_10 ?_
  refine X_icmp_ge C dX2_motherOf_13 (tgt := 82) (by decide) (fun c => ?_) (fun c => ?_)
  · replace h := h.1 c
    refine X_iload_n C dX2_motherOf_82 rfl (j := 2) rfl ?_
    exact X_iret C Z rfl dX2_motherOf_83 h
  · replace h := h.2 c
    refine X_aload_n C dX2_motherOf_16 rfl (j := 0) rfl ?_
    refine X_iload C dX2_motherOf_17 (j := 4) rfl ?_
    refine X_callV C dX2_motherOf_19 pw_RX2_79 (b := 5) (as := [.int x4]) (S := []) sh_5 rfl rfl rfl (Nat.le_of_ble_eq_true rfl) (Ct_mono h ?_)
    rintro _ s1 ⟨v2, rfl, h⟩
    show X κ 22 [(0, .ref 5), (1, .int x1), (2, .int x2), (3, .int x3), (4, .int x4)] [.int v2] s1
    refine X_aload_n C dX2_motherOf_22 rfl (j := 0) rfl ?_
    refine X_iload_n C dX2_motherOf_23 rfl (j := 1) rfl ?_
    refine X_callV C dX2_motherOf_24 pw_RX2_79 (b := 5) (as := [.int x1]) (S := [.int v2]) sh_5 rfl rfl rfl (Nat.le_of_ble_eq_true rfl) (Ct_mono h ?_)
    rintro _ s3 ⟨v4, rfl, h⟩
    show X κ 27 [(0, .ref 5), (1, .int x1), (2, .int x2), (3, .int x3), (4, .int x4)] [.int v4, .int v2] s3
    refine X_icmp_ge C dX2_motherOf_27 (tgt := 76) (by decide) (fun c => ?_) (fun c => ?_)
    · replace h := h.1 c
      refine X_iinc C dX2_motherOf_76 (j := 4) rfl (v := x4 + 1) rfl (by decide) (L' := [(4, .int (x4 + 1)), (0, .ref 5), (1, .int x1), (2, .int x2), (3, .int x3)]) rfl ?_
      refine X_goto C dX2_motherOf_79 (tgt := 7) (by decide) ?_
      refine X_loc [1, 2, 3, 4, 0] rfl ?_
      exact h
    · replace h := h.2 c
      refine X_aload_n C dX2_motherOf_30 rfl (j := 0) rfl ?_
      refine X_iload C dX2_motherOf_31 (j := 4) rfl ?_
      refine X_iload_n C dX2_motherOf_33 rfl (j := 1) rfl ?_
      refine X_callV C dX2_motherOf_34 pw_RX2_82 (b := 5) (as := [.int x4, .int x1]) (S := []) sh_5 rfl rfl rfl (Nat.le_of_ble_eq_true rfl) (Ct_mono h ?_)
      rintro _ s5 ⟨v6, rfl, h⟩
      show X κ 37 [(0, .ref 5), (1, .int x1), (2, .int x2), (3, .int x3), (4, .int x4)] [.int v6] s5
      refine X_istore C dX2_motherOf_37 (by decide) (L' := [(5, .int v6), (0, .ref 5), (1, .int x1), (2, .int x2), (3, .int x3), (4, .int x4)]) rfl ?_
      refine X_iload_n C dX2_motherOf_39 rfl (j := 3) rfl ?_
      refine X_iconst C (v := (-1)) (by decide) dX2_motherOf_40 ?_
      refine X_icmp_eq C dX2_motherOf_41 (tgt := 70) (by decide) (fun c => ?_) (fun c => ?_)
      · replace h := h.1 c
        refine X_iload C dX2_motherOf_70 (j := 5) rfl ?_
        refine X_istore_n C dX2_motherOf_72 rfl (by decide) (L' := [(2, .int x4), (5, .int v6), (0, .ref 5), (1, .int x1), (3, .int x3), (4, .int x4)]) rfl ?_
        refine X_iload C dX2_motherOf_73 (j := 1) rfl ?_
        refine X_istore_n C dX2_motherOf_75 rfl (by decide) (L' := [(3, .int v6), (2, .int x4), (5, .int v6), (0, .ref 5), (1, .int x1), (4, .int x4)]) rfl ?_
        refine X_iinc C dX2_motherOf_76 (j := 5) rfl (v := x4 + 1) rfl (by decide) (L' := [(4, .int (x4 + 1)), (3, .int v6), (2, .int x4), (5, .int v6), (0, .ref 5), (1, .int x1)]) rfl ?_
        refine X_goto C dX2_motherOf_79 (tgt := 7) (by decide) ?_
        refine X_loc [4, 5, 2, 1, 0] rfl ?_
        exact h
      · replace h := h.2 c
        refine X_iload C dX2_motherOf_44 (j := 0) rfl ?_
        refine X_iload_n C dX2_motherOf_46 rfl (j := 4) rfl ?_
        refine X_icmp_lt C dX2_motherOf_47 (tgt := 70) (by decide) (fun c => ?_) (fun c => ?_)
        · replace h := h.1 c
          refine X_iload C dX2_motherOf_70 (j := 5) rfl ?_
          refine X_istore_n C dX2_motherOf_72 rfl (by decide) (L' := [(2, .int x4), (5, .int v6), (0, .ref 5), (1, .int x1), (3, .int x3), (4, .int x4)]) rfl ?_
          refine X_iload C dX2_motherOf_73 (j := 1) rfl ?_
          refine X_istore_n C dX2_motherOf_75 rfl (by decide) (L' := [(3, .int v6), (2, .int x4), (5, .int v6), (0, .ref 5), (1, .int x1), (4, .int x4)]) rfl ?_
          refine X_iinc C dX2_motherOf_76 (j := 5) rfl (v := x4 + 1) rfl (by decide) (L' := [(4, .int (x4 + 1)), (3, .int v6), (2, .int x4), (5, .int v6), (0, .ref 5), (1, .int x1)]) rfl ?_
          refine X_goto C dX2_motherOf_79 (tgt := 7) (by decide) ?_
          refine X_loc [4, 5, 2, 1, 0] rfl ?_
          exact h
        · replace h := h.2 c
          refine X_iload C dX2_motherOf_50 (j := 0) rfl ?_
          refine X_iload_n C dX2_motherOf_52 rfl (j := 4) rfl ?_
          refine X_icmp_ne C dX2_motherOf_53 (tgt := 76) (by decide) (fun c => ?_) (fun c => ?_)
          · replace h := h.1 c
            refine X_iinc C dX2_motherOf_76 (j := 5) rfl (v := x4 + 1) rfl (by decide) (L' := [(4, .int (x4 + 1)), (5, .int v6), (0, .ref 5), (1, .int x1), (2, .int x2), (3, .int x3)]) rfl ?_
            refine X_goto C dX2_motherOf_79 (tgt := 7) (by decide) ?_
            refine X_loc [2, 3, 4, 5, 0] rfl ?_
            exact h
          · replace h := h.2 c
            refine X_aload_n C dX2_motherOf_56 rfl (j := 1) rfl ?_
            refine X_iload C dX2_motherOf_57 (j := 5) rfl ?_
            refine X_callV C dX2_motherOf_59 pw_RX2_79 (b := 5) (as := [.int x4]) (S := []) sh_5 rfl rfl rfl (Nat.le_of_ble_eq_true rfl) (Ct_mono h ?_)
            rintro _ s7 ⟨v8, rfl, h⟩
            show X κ 62 [(5, .int v6), (0, .ref 5), (1, .int x1), (2, .int x2), (3, .int x3), (4, .int x4)] [.int v8] s7
            refine X_aload_n C dX2_motherOf_62 rfl (j := 1) rfl ?_
            refine X_iload_n C dX2_motherOf_63 rfl (j := 3) rfl ?_
            refine X_callV C dX2_motherOf_64 pw_RX2_79 (b := 5) (as := [.int x2]) (S := [.int v8]) sh_5 rfl rfl rfl (Nat.le_of_ble_eq_true rfl) (Ct_mono h ?_)
            rintro _ s9 ⟨v10, rfl, h⟩
            show X κ 67 [(5, .int v6), (0, .ref 5), (1, .int x1), (2, .int x2), (3, .int x3), (4, .int x4)] [.int v10, .int v8] s9
            refine X_icmp_le C dX2_motherOf_67 (tgt := 76) (by decide) (fun c => ?_) (fun c => ?_)
            · replace h := h.1 c
              refine X_iinc C dX2_motherOf_76 (j := 5) rfl (v := x4 + 1) rfl (by decide) (L' := [(4, .int (x4 + 1)), (5, .int v6), (0, .ref 5), (1, .int x1), (2, .int x2), (3, .int x3)]) rfl ?_
              refine X_goto C dX2_motherOf_79 (tgt := 7) (by decide) ?_
              refine X_loc [2, 3, 4, 5, 0] rfl ?_
              exact h
            · replace h := h.2 c
              refine X_iload C dX2_motherOf_70 (j := 5) rfl ?_
              refine X_istore_n C dX2_motherOf_72 rfl (by decide) (L' := [(2, .int x4), (5, .int v6), (0, .ref 5), (1, .int x1), (3, .int x3), (4, .int x4)]) rfl ?_
              refine X_iload C dX2_motherOf_73 (j := 1) rfl ?_
              refine X_istore_n C dX2_motherOf_75 rfl (by decide) (L' := [(3, .int v6), (2, .int x4), (5, .int v6), (0, .ref 5), (1, .int x1), (4, .int x4)]) rfl ?_
              refine X_iinc C dX2_motherOf_76 (j := 5) rfl (v := x4 + 1) rfl (by decide) (L' := [(4, .int (x4 + 1)), (3, .int v6), (2, .int x4), (5, .int v6), (0, .ref 5), (1, .int x1)]) rfl ?_
              refine X_goto C dX2_motherOf_79 (tgt := 7) (by decide) ?_
              refine X_loc [4, 5, 2, 1, 0] rfl ?_
              exact h
set_option maxHeartbeats 4000000 in
set_option maxRecDepth 100000 in
theorem eX2_motherOf {d : Nat} {Q : Option Value → xSt → Prop} (a1 : Int32) (st : xSt) (h : ∀ κ : xK, Cx κ M_X2_motherOf (d + 1) → xR κ Q → X κ 7 [(0, .ref 5), (1, .int a1), (2, .int ((-1))), (3, .int 0), (4, .int 0)] [] st) : Ct (d + 1) M_X2_motherOf [.ref 5, .int a1] st Q := by
  refine Ct_of (by decide +kernel) (Nat.le_of_ble_eq_true rfl) (fun κ C Z => ?_)
  replace h := h κ C Z
  show X κ 0 [(0, .ref 5), (1, .int a1)] [] st
  refine X_iconst C (v := (-1)) (by decide) dX2_motherOf_0 ?_
  refine X_istore_n C dX2_motherOf_1 rfl (by decide) (L' := [(2, .int ((-1))), (0, .ref 5), (1, .int a1)]) rfl ?_
  refine X_iconst C (v := 0) (by decide) dX2_motherOf_2 ?_
  refine X_istore_n C dX2_motherOf_3 rfl (by decide) (L' := [(3, .int 0), (2, .int ((-1))), (0, .ref 5), (1, .int a1)]) rfl ?_
  refine X_iconst C (v := 0) (by decide) dX2_motherOf_4 ?_
  refine X_istore C dX2_motherOf_5 (by decide) (L' := [(4, .int 0), (3, .int 0), (2, .int ((-1))), (0, .ref 5), (1, .int a1)]) rfl ?_
  refine X_loc [3, 4, 2, 1, 0] rfl ?_
  exact h
set_option maxHeartbeats 4000000 in
set_option maxRecDepth 100000 in
theorem bX2_generations_4 {κ : xK} {d : Nat} {Q : Option Value → xSt → Prop} (C : Cx κ M_X2_generations (d + 1)) (Z : xR κ Q) (x2 : Int32) (x3 : Int32) (st : xSt) (h : ((8 ≤ x3 → Q (some (.int 8)) st) ∧ (¬ 8 ≤ x3 → Ct d M_X2_motherOf [.ref 5, .int x2] st (Qi fun v2 s1 => ((¬ v2 = ((-1)) → X κ 4 [(0, .ref 5), (2, .int v2), (3, .int (x3 + 1))] [] s1) ∧ (v2 = ((-1)) → Q (some (.int x3)) s1)))))) : X κ 4 [(0, .ref 5), (2, .int x2), (3, .int x3)] [] st := by
  refine X_iload_n C dX2_generations_4 rfl (j := 2) rfl ?_
  refine X_bipush C (v := 8) (by decide) dX2_generations_5 ?_
  refine X_icmp_ge C dX2_generations_7 (tgt := 29) (by decide) (fun c => ?_) (fun c => ?_)
  · replace h := h.1 c
    refine X_bipush C (v := 8) (by decide) dX2_generations_29 ?_
    exact X_iret C Z rfl dX2_generations_31 h
  · replace h := h.2 c
    refine X_aload_n C dX2_generations_10 rfl (j := 0) rfl ?_
    refine X_iload_n C dX2_generations_11 rfl (j := 1) rfl ?_
    refine X_callV C dX2_generations_12 pw_RX2_85 (b := 5) (as := [.int x2]) (S := []) sh_5 rfl rfl rfl (Nat.le_of_ble_eq_true rfl) (Ct_mono h ?_)
    rintro _ s1 ⟨v2, rfl, h⟩
    show X κ 15 [(0, .ref 5), (2, .int x2), (3, .int x3)] [.int v2] s1
    refine X_istore_n C dX2_generations_15 rfl (by decide) (L' := [(2, .int v2), (0, .ref 5), (3, .int x3)]) rfl ?_
    refine X_iload_n C dX2_generations_16 rfl (j := 0) rfl ?_
    refine X_iconst C (v := (-1)) (by decide) dX2_generations_17 ?_
    refine X_icmp_ne C dX2_generations_18 (tgt := 23) (by decide) (fun c => ?_) (fun c => ?_)
    · replace h := h.1 c
      refine X_iinc C dX2_generations_23 (j := 2) rfl (v := x3 + 1) rfl (by decide) (L' := [(3, .int (x3 + 1)), (2, .int v2), (0, .ref 5)]) rfl ?_
      refine X_goto C dX2_generations_26 (tgt := 4) (by decide) ?_
      refine X_loc [2, 1, 0] rfl ?_
      exact h
    · replace h := h.2 c
      refine X_iload_n C dX2_generations_21 rfl (j := 2) rfl ?_
      exact X_iret C Z rfl dX2_generations_22 h
set_option maxHeartbeats 4000000 in
set_option maxRecDepth 100000 in
theorem eX2_generations {d : Nat} {Q : Option Value → xSt → Prop} (a1 : Int32) (st : xSt) (h : ∀ κ : xK, Cx κ M_X2_generations (d + 1) → xR κ Q → X κ 4 [(0, .ref 5), (2, .int a1), (3, .int 0)] [] st) : Ct (d + 1) M_X2_generations [.ref 5, .int a1] st Q := by
  refine Ct_of (by decide +kernel) (Nat.le_of_ble_eq_true rfl) (fun κ C Z => ?_)
  replace h := h κ C Z
  show X κ 0 [(0, .ref 5), (1, .int a1)] [] st
  refine X_iload_n C dX2_generations_0 rfl (j := 1) rfl ?_
  refine X_istore_n C dX2_generations_1 rfl (by decide) (L' := [(2, .int a1), (0, .ref 5), (1, .int a1)]) rfl ?_
  refine X_iconst C (v := 0) (by decide) dX2_generations_2 ?_
  refine X_istore_n C dX2_generations_3 rfl (by decide) (L' := [(3, .int 0), (2, .int a1), (0, .ref 5), (1, .int a1)]) rfl ?_
  refine X_loc [2, 1, 0] rfl ?_
  exact h
set_option maxHeartbeats 4000000 in
set_option maxRecDepth 100000 in
theorem eX2_couldBeOfTwo {d : Nat} {Q : Option Value → xSt → Prop} (a1 : Int32) (a2 : Int32) (st : xSt) (h : Ct d M_X2_yearOf [.ref 5, .int a1] st (Qi fun v2 s1 => Ct d M_X2_yearOf [.ref 5, .int a2] s1 (Qi fun v4 s3 => ((v4 ≤ v2 → Q (some (.int 0)) s3) ∧ (¬ v4 ≤ v2 → Ct d M_X2_lengthOf [.ref 5, .int a1] s3 (Qi fun v6 s5 => Ct d M_X2_lengthOf [.ref 5, .int a2] s5 (Qi fun v8 s7 => ((¬ v6 = v8 → Q (some (.int 0)) s7) ∧ (v6 = v8 → Q (some (.int 1)) s7))))))))) : Ct (d + 1) M_X2_couldBeOfTwo [.ref 5, .int a1, .int a2] st Q := by
  refine Ct_of (by decide +kernel) (Nat.le_of_ble_eq_true rfl) (fun κ C Z => ?_)
  show X κ 0 [(0, .ref 5), (1, .int a1), (2, .int a2)] [] st
  refine X_aload_n C dX2_couldBeOfTwo_0 rfl (j := 0) rfl ?_
  refine X_iload_n C dX2_couldBeOfTwo_1 rfl (j := 1) rfl ?_
  refine X_callV C dX2_couldBeOfTwo_2 pw_RX2_79 (b := 5) (as := [.int a1]) (S := []) sh_5 rfl rfl rfl (Nat.le_of_ble_eq_true rfl) (Ct_mono h ?_)
  rintro _ s1 ⟨v2, rfl, h⟩
  show X κ 5 [(0, .ref 5), (1, .int a1), (2, .int a2)] [.int v2] s1
  refine X_aload_n C dX2_couldBeOfTwo_5 rfl (j := 0) rfl ?_
  refine X_iload_n C dX2_couldBeOfTwo_6 rfl (j := 2) rfl ?_
  refine X_callV C dX2_couldBeOfTwo_7 pw_RX2_79 (b := 5) (as := [.int a2]) (S := [.int v2]) sh_5 rfl rfl rfl (Nat.le_of_ble_eq_true rfl) (Ct_mono h ?_)
  rintro _ s3 ⟨v4, rfl, h⟩
  show X κ 10 [(0, .ref 5), (1, .int a1), (2, .int a2)] [.int v4, .int v2] s3
  refine X_icmp_ge C dX2_couldBeOfTwo_10 (tgt := 30) (by decide) (fun c => ?_) (fun c => ?_)
  · replace h := h.1 c
    refine X_iconst C (v := 0) (by decide) dX2_couldBeOfTwo_30 ?_
    exact X_zret C Z rfl (by decide) dX2_couldBeOfTwo_31 h
  · replace h := h.2 c
    refine X_aload_n C dX2_couldBeOfTwo_13 rfl (j := 0) rfl ?_
    refine X_iload_n C dX2_couldBeOfTwo_14 rfl (j := 1) rfl ?_
    refine X_callV C dX2_couldBeOfTwo_15 pw_RX2_51 (b := 5) (as := [.int a1]) (S := []) sh_5 rfl rfl rfl (Nat.le_of_ble_eq_true rfl) (Ct_mono h ?_)
    rintro _ s5 ⟨v6, rfl, h⟩
    show X κ 18 [(0, .ref 5), (1, .int a1), (2, .int a2)] [.int v6] s5
    refine X_aload_n C dX2_couldBeOfTwo_18 rfl (j := 0) rfl ?_
    refine X_iload_n C dX2_couldBeOfTwo_19 rfl (j := 2) rfl ?_
    refine X_callV C dX2_couldBeOfTwo_20 pw_RX2_51 (b := 5) (as := [.int a2]) (S := [.int v6]) sh_5 rfl rfl rfl (Nat.le_of_ble_eq_true rfl) (Ct_mono h ?_)
    rintro _ s7 ⟨v8, rfl, h⟩
    show X κ 23 [(0, .ref 5), (1, .int a1), (2, .int a2)] [.int v8, .int v6] s7
    refine X_icmp_ne C dX2_couldBeOfTwo_23 (tgt := 30) (by decide) (fun c => ?_) (fun c => ?_)
    · replace h := h.1 c
      refine X_iconst C (v := 0) (by decide) dX2_couldBeOfTwo_30 ?_
      exact X_zret C Z rfl (by decide) dX2_couldBeOfTwo_31 h
    · replace h := h.2 c
      refine X_iconst C (v := 1) (by decide) dX2_couldBeOfTwo_26 ?_
      refine X_goto C dX2_couldBeOfTwo_27 (tgt := 31) (by decide) ?_
      exact X_zret C Z rfl (by decide) dX2_couldBeOfTwo_31 h
set_option maxHeartbeats 4000000 in
set_option maxRecDepth 100000 in
theorem bX2_twoMothers_7 {κ : xK} {d : Nat} {Q : Option Value → xSt → Prop} (C : Cx κ M_X2_twoMothers (d + 1)) (Z : xR κ Q) (x1 : Int32) (x2 : Int32) (x3 : Int32) (x4 : Int32) (st : xSt) (h : (((st.1 5 5) ≤ x4 → Q (some (.int x2)) st) ∧ (¬ (st.1 5 5) ≤ x4 → X κ 22 [(0, .ref 5), (1, .int x1), (2, .int x2), (3, .int x3), (4, .int x4), (5, .int (x4 + 1))] [] st))) : X κ 7 [(0, .ref 5), (1, .int x1), (2, .int x2), (3, .int x3), (4, .int x4)] [] st := by
  refine X_iload C dX2_twoMothers_7 (j := 4) rfl ?_
  refine X_aload_n C dX2_twoMothers_9 rfl (j := 0) rfl ?_
  refine X_getI C sh_5 rfl fw_RX2_29 dX2_twoMothers_10 ?_
  refine X_icmp_ge C dX2_twoMothers_13 (tgt := 97) (by decide) (fun c => ?_) (fun c => ?_)
  · replace h := h.1 c
    refine X_iload_n C dX2_twoMothers_97 rfl (j := 2) rfl ?_
    exact X_iret C Z rfl dX2_twoMothers_98 h
  · replace h := h.2 c
    refine X_iload C dX2_twoMothers_16 (j := 4) rfl ?_
    refine X_iconst C (v := 1) (by decide) dX2_twoMothers_18 ?_
    refine X_iadd C dX2_twoMothers_19 ?_
    refine X_istore C dX2_twoMothers_20 (by decide) (L' := [(5, .int (x4 + 1)), (0, .ref 5), (1, .int x1), (2, .int x2), (3, .int x3), (4, .int x4)]) rfl ?_
    refine X_loc [1, 2, 3, 4, 5, 0] rfl ?_
    exact h
set_option maxHeartbeats 4000000 in
set_option maxRecDepth 100000 in
theorem bX2_twoMothers_22 {κ : xK} {d : Nat} {Q : Option Value → xSt → Prop} (C : Cx κ M_X2_twoMothers (d + 1)) (Z : xR κ Q) (x1 : Int32) (x2 : Int32) (x3 : Int32) (x4 : Int32) (x5 : Int32) (st : xSt) (h : (((st.1 5 5) ≤ x5 → X κ 7 [(0, .ref 5), (1, .int x1), (2, .int x2), (3, .int x3), (4, .int (x4 + 1))] [] st) ∧ (¬ (st.1 5 5) ≤ x5 → Ct d M_X2_couldBeOfTwo [.ref 5, .int x4, .int x1] st (Qi fun v2 s1 => ((v2 = 0 → X κ 7 [(0, .ref 5), (1, .int x1), (2, .int x2), (3, .int x3), (4, .int (x4 + 1))] [] s1) ∧ (¬ v2 = 0 → Ct d M_X2_couldBeOfTwo [.ref 5, .int x5, .int x1] s1 (Qi fun v4 s3 => ((v4 = 0 → X κ 22 [(0, .ref 5), (1, .int x1), (2, .int x2), (3, .int x3), (4, .int x4), (5, .int (x5 + 1))] [] s3) ∧ (¬ v4 = 0 → Ct d M_X2_unlikeBoth [.ref 5, .int x1, .int x4, .int x5] s3 (Qi fun v6 s5 => ((x2 = ((-1)) → X κ 22 [(0, .ref 5), (1, .int x1), (2, .int ((10 * x4) + x5)), (3, .int v6), (4, .int x4), (5, .int (x5 + 1))] [] s5) ∧ (¬ x2 = ((-1)) → ((x3 ≤ v6 → X κ 22 [(0, .ref 5), (1, .int x1), (2, .int x2), (3, .int x3), (4, .int x4), (5, .int (x5 + 1))] [] s5) ∧ (¬ x3 ≤ v6 → X κ 22 [(0, .ref 5), (1, .int x1), (2, .int ((10 * x4) + x5)), (3, .int v6), (4, .int x4), (5, .int (x5 + 1))] [] s5)))))))))))))) : X κ 22 [(0, .ref 5), (1, .int x1), (2, .int x2), (3, .int x3), (4, .int x4), (5, .int x5)] [] st := by
  refine X_iload C dX2_twoMothers_22 (j := 5) rfl ?_
  refine X_aload_n C dX2_twoMothers_24 rfl (j := 0) rfl ?_
  refine X_getI C sh_5 rfl fw_RX2_29 dX2_twoMothers_25 ?_
  refine X_icmp_ge C dX2_twoMothers_28 (tgt := 91) (by decide) (fun c => ?_) (fun c => ?_)
  · replace h := h.1 c
    refine X_iinc C dX2_twoMothers_91 (j := 4) rfl (v := x4 + 1) rfl (by decide) (L' := [(4, .int (x4 + 1)), (0, .ref 5), (1, .int x1), (2, .int x2), (3, .int x3), (5, .int x5)]) rfl ?_
    refine X_goto C dX2_twoMothers_94 (tgt := 7) (by decide) ?_
    refine X_loc [1, 2, 3, 4, 0] rfl ?_
    exact h
  · replace h := h.2 c
    refine X_aload_n C dX2_twoMothers_31 rfl (j := 0) rfl ?_
    refine X_iload C dX2_twoMothers_32 (j := 4) rfl ?_
    refine X_iload_n C dX2_twoMothers_34 rfl (j := 1) rfl ?_
    refine X_callV C dX2_twoMothers_35 pw_RX2_88 (b := 5) (as := [.int x4, .int x1]) (S := []) sh_5 rfl rfl rfl (Nat.le_of_ble_eq_true rfl) (Ct_mono h ?_)
    rintro _ s1 ⟨v2, rfl, h⟩
    show X κ 38 [(0, .ref 5), (1, .int x1), (2, .int x2), (3, .int x3), (4, .int x4), (5, .int x5)] [.int v2] s1
    refine X_if_eq C dX2_twoMothers_38 (tgt := 91) (by decide) (fun c => ?_) (fun c => ?_)
    · replace h := h.1 c
      refine X_iinc C dX2_twoMothers_91 (j := 4) rfl (v := x4 + 1) rfl (by decide) (L' := [(4, .int (x4 + 1)), (0, .ref 5), (1, .int x1), (2, .int x2), (3, .int x3), (5, .int x5)]) rfl ?_
      refine X_goto C dX2_twoMothers_94 (tgt := 7) (by decide) ?_
      refine X_loc [1, 2, 3, 4, 0] rfl ?_
      exact h
    · replace h := h.2 c
      refine X_aload_n C dX2_twoMothers_41 rfl (j := 0) rfl ?_
      refine X_iload C dX2_twoMothers_42 (j := 5) rfl ?_
      refine X_iload_n C dX2_twoMothers_44 rfl (j := 1) rfl ?_
      refine X_callV C dX2_twoMothers_45 pw_RX2_88 (b := 5) (as := [.int x5, .int x1]) (S := []) sh_5 rfl rfl rfl (Nat.le_of_ble_eq_true rfl) (Ct_mono h ?_)
      rintro _ s3 ⟨v4, rfl, h⟩
      show X κ 48 [(0, .ref 5), (1, .int x1), (2, .int x2), (3, .int x3), (4, .int x4), (5, .int x5)] [.int v4] s3
      refine X_if_eq C dX2_twoMothers_48 (tgt := 85) (by decide) (fun c => ?_) (fun c => ?_)
      · replace h := h.1 c
        refine X_iinc C dX2_twoMothers_85 (j := 5) rfl (v := x5 + 1) rfl (by decide) (L' := [(5, .int (x5 + 1)), (0, .ref 5), (1, .int x1), (2, .int x2), (3, .int x3), (4, .int x4)]) rfl ?_
        refine X_goto C dX2_twoMothers_88 (tgt := 22) (by decide) ?_
        refine X_loc [1, 2, 3, 4, 5, 0] rfl ?_
        exact h
      · replace h := h.2 c
        refine X_aload_n C dX2_twoMothers_51 rfl (j := 0) rfl ?_
        refine X_iload_n C dX2_twoMothers_52 rfl (j := 1) rfl ?_
        refine X_iload C dX2_twoMothers_53 (j := 4) rfl ?_
        refine X_iload C dX2_twoMothers_55 (j := 5) rfl ?_
        refine X_callV C dX2_twoMothers_57 pw_RX2_91 (b := 5) (as := [.int x1, .int x4, .int x5]) (S := []) sh_5 rfl rfl rfl (Nat.le_of_ble_eq_true rfl) (Ct_mono h ?_)
        rintro _ s5 ⟨v6, rfl, h⟩
        show X κ 60 [(0, .ref 5), (1, .int x1), (2, .int x2), (3, .int x3), (4, .int x4), (5, .int x5)] [.int v6] s5
        refine X_istore C dX2_twoMothers_60 (by decide) (L' := [(6, .int v6), (0, .ref 5), (1, .int x1), (2, .int x2), (3, .int x3), (4, .int x4), (5, .int x5)]) rfl ?_
        refine X_iload_n C dX2_twoMothers_62 rfl (j := 3) rfl ?_
        refine X_iconst C (v := (-1)) (by decide) dX2_twoMothers_63 ?_
        refine X_icmp_eq C dX2_twoMothers_64 (tgt := 73) (by decide) (fun c => ?_) (fun c => ?_)
        · replace h := h.1 c
          refine X_bipush C (v := 10) (by decide) dX2_twoMothers_73 ?_
          refine X_iload C dX2_twoMothers_75 (j := 5) rfl ?_
          refine X_imul C dX2_twoMothers_77 ?_
          refine X_iload C dX2_twoMothers_78 (j := 6) rfl ?_
          refine X_iadd C dX2_twoMothers_80 ?_
          refine X_istore_n C dX2_twoMothers_81 rfl (by decide) (L' := [(2, .int ((10 * x4) + x5)), (6, .int v6), (0, .ref 5), (1, .int x1), (3, .int x3), (4, .int x4), (5, .int x5)]) rfl ?_
          refine X_iload C dX2_twoMothers_82 (j := 1) rfl ?_
          refine X_istore_n C dX2_twoMothers_84 rfl (by decide) (L' := [(3, .int v6), (2, .int ((10 * x4) + x5)), (6, .int v6), (0, .ref 5), (1, .int x1), (4, .int x4), (5, .int x5)]) rfl ?_
          refine X_iinc C dX2_twoMothers_85 (j := 6) rfl (v := x5 + 1) rfl (by decide) (L' := [(5, .int (x5 + 1)), (3, .int v6), (2, .int ((10 * x4) + x5)), (6, .int v6), (0, .ref 5), (1, .int x1), (4, .int x4)]) rfl ?_
          refine X_goto C dX2_twoMothers_88 (tgt := 22) (by decide) ?_
          refine X_loc [4, 5, 2, 1, 6, 0] rfl ?_
          exact h
        · replace h := h.2 c
          refine X_iload C dX2_twoMothers_67 (j := 0) rfl ?_
          refine X_iload_n C dX2_twoMothers_69 rfl (j := 4) rfl ?_
          refine X_icmp_ge C dX2_twoMothers_70 (tgt := 85) (by decide) (fun c => ?_) (fun c => ?_)
          · replace h := h.1 c
            refine X_iinc C dX2_twoMothers_85 (j := 6) rfl (v := x5 + 1) rfl (by decide) (L' := [(5, .int (x5 + 1)), (6, .int v6), (0, .ref 5), (1, .int x1), (2, .int x2), (3, .int x3), (4, .int x4)]) rfl ?_
            refine X_goto C dX2_twoMothers_88 (tgt := 22) (by decide) ?_
            refine X_loc [2, 3, 4, 5, 6, 0] rfl ?_
            exact h
          · replace h := h.2 c
            refine X_bipush C (v := 10) (by decide) dX2_twoMothers_73 ?_
            refine X_iload C dX2_twoMothers_75 (j := 5) rfl ?_
            refine X_imul C dX2_twoMothers_77 ?_
            refine X_iload C dX2_twoMothers_78 (j := 6) rfl ?_
            refine X_iadd C dX2_twoMothers_80 ?_
            refine X_istore_n C dX2_twoMothers_81 rfl (by decide) (L' := [(2, .int ((10 * x4) + x5)), (6, .int v6), (0, .ref 5), (1, .int x1), (3, .int x3), (4, .int x4), (5, .int x5)]) rfl ?_
            refine X_iload C dX2_twoMothers_82 (j := 1) rfl ?_
            refine X_istore_n C dX2_twoMothers_84 rfl (by decide) (L' := [(3, .int v6), (2, .int ((10 * x4) + x5)), (6, .int v6), (0, .ref 5), (1, .int x1), (4, .int x4), (5, .int x5)]) rfl ?_
            refine X_iinc C dX2_twoMothers_85 (j := 6) rfl (v := x5 + 1) rfl (by decide) (L' := [(5, .int (x5 + 1)), (3, .int v6), (2, .int ((10 * x4) + x5)), (6, .int v6), (0, .ref 5), (1, .int x1), (4, .int x4)]) rfl ?_
            refine X_goto C dX2_twoMothers_88 (tgt := 22) (by decide) ?_
            refine X_loc [4, 5, 2, 1, 6, 0] rfl ?_
            exact h
set_option maxHeartbeats 4000000 in
set_option maxRecDepth 100000 in
theorem eX2_twoMothers {d : Nat} {Q : Option Value → xSt → Prop} (a1 : Int32) (st : xSt) (h : ∀ κ : xK, Cx κ M_X2_twoMothers (d + 1) → xR κ Q → X κ 7 [(0, .ref 5), (1, .int a1), (2, .int ((-1))), (3, .int 0), (4, .int 0)] [] st) : Ct (d + 1) M_X2_twoMothers [.ref 5, .int a1] st Q := by
  refine Ct_of (by decide +kernel) (Nat.le_of_ble_eq_true rfl) (fun κ C Z => ?_)
  replace h := h κ C Z
  show X κ 0 [(0, .ref 5), (1, .int a1)] [] st
  refine X_iconst C (v := (-1)) (by decide) dX2_twoMothers_0 ?_
  refine X_istore_n C dX2_twoMothers_1 rfl (by decide) (L' := [(2, .int ((-1))), (0, .ref 5), (1, .int a1)]) rfl ?_
  refine X_iconst C (v := 0) (by decide) dX2_twoMothers_2 ?_
  refine X_istore_n C dX2_twoMothers_3 rfl (by decide) (L' := [(3, .int 0), (2, .int ((-1))), (0, .ref 5), (1, .int a1)]) rfl ?_
  refine X_iconst C (v := 0) (by decide) dX2_twoMothers_4 ?_
  refine X_istore C dX2_twoMothers_5 (by decide) (L' := [(4, .int 0), (3, .int 0), (2, .int ((-1))), (0, .ref 5), (1, .int a1)]) rfl ?_
  refine X_loc [3, 4, 2, 1, 0] rfl ?_
  exact h
set_option maxHeartbeats 4000000 in
set_option maxRecDepth 100000 in
theorem bX2_unlikeBoth_6 {κ : xK} {d : Nat} {Q : Option Value → xSt → Prop} (C : Cx κ M_X2_unlikeBoth (d + 1)) (Z : xR κ Q) (x1 : Int32) (x2 : Int32) (x3 : Int32) (x4 : Int32) (x5 : Int32) (st : xSt) (h : Ct d M_X2_lengthOf [.ref 5, .int x1] st (Qi fun v2 s1 => ((v2 ≤ x5 → Q (some (.int x4)) s1) ∧ (¬ v2 ≤ x5 → Ct d M_X2_item [.ref 5, .int x1, .int x5] s1 (Qi fun v4 s3 => Ct d M_X2_item [.ref 5, .int x2, .int x5] s3 (Qi fun v6 s5 => Ct d M_X2_unlike [.int v4, .int v6] s5 (Qi fun v8 s7 => ((v8 = 0 → X κ 6 [(0, .ref 5), (1, .int x1), (2, .int x2), (3, .int x3), (4, .int x4), (5, .int (x5 + 1))] [] s7) ∧ (¬ v8 = 0 → Ct d M_X2_item [.ref 5, .int x3, .int x5] s7 (Qi fun v10 s9 => Ct d M_X2_unlike [.int v4, .int v10] s9 (Qi fun v12 s11 => ((v12 = 0 → X κ 6 [(0, .ref 5), (1, .int x1), (2, .int x2), (3, .int x3), (4, .int x4), (5, .int (x5 + 1))] [] s11) ∧ (¬ v12 = 0 → X κ 6 [(0, .ref 5), (1, .int x1), (2, .int x2), (3, .int x3), (4, .int (x4 + 1)), (5, .int (x5 + 1))] [] s11))))))))))))) : X κ 6 [(0, .ref 5), (1, .int x1), (2, .int x2), (3, .int x3), (4, .int x4), (5, .int x5)] [] st := by
  refine X_iload C dX2_unlikeBoth_6 (j := 5) rfl ?_
  refine X_aload_n C dX2_unlikeBoth_8 rfl (j := 0) rfl ?_
  refine X_iload_n C dX2_unlikeBoth_9 rfl (j := 1) rfl ?_
  refine X_callV C dX2_unlikeBoth_10 pw_RX2_51 (b := 5) (as := [.int x1]) (S := [.int x5]) sh_5 rfl rfl rfl (Nat.le_of_ble_eq_true rfl) (Ct_mono h ?_)
  rintro _ s1 ⟨v2, rfl, h⟩
  show X κ 13 [(0, .ref 5), (1, .int x1), (2, .int x2), (3, .int x3), (4, .int x4), (5, .int x5)] [.int v2, .int x5] s1
  refine X_icmp_ge C dX2_unlikeBoth_13 (tgt := 64) (by decide) (fun c => ?_) (fun c => ?_)
  · replace h := h.1 c
    refine X_iload C dX2_unlikeBoth_64 (j := 4) rfl ?_
    exact X_iret C Z rfl dX2_unlikeBoth_66 h
  · replace h := h.2 c
    refine X_aload_n C dX2_unlikeBoth_16 rfl (j := 0) rfl ?_
    refine X_iload_n C dX2_unlikeBoth_17 rfl (j := 1) rfl ?_
    refine X_iload C dX2_unlikeBoth_18 (j := 5) rfl ?_
    refine X_callV C dX2_unlikeBoth_20 pw_RX2_55 (b := 5) (as := [.int x1, .int x5]) (S := []) sh_5 rfl rfl rfl (Nat.le_of_ble_eq_true rfl) (Ct_mono h ?_)
    rintro _ s3 ⟨v4, rfl, h⟩
    show X κ 23 [(0, .ref 5), (1, .int x1), (2, .int x2), (3, .int x3), (4, .int x4), (5, .int x5)] [.int v4] s3
    refine X_istore C dX2_unlikeBoth_23 (by decide) (L' := [(6, .int v4), (0, .ref 5), (1, .int x1), (2, .int x2), (3, .int x3), (4, .int x4), (5, .int x5)]) rfl ?_
    refine X_iload C dX2_unlikeBoth_25 (j := 0) rfl ?_
    refine X_aload_n C dX2_unlikeBoth_27 rfl (j := 1) rfl ?_
    refine X_iload_n C dX2_unlikeBoth_28 rfl (j := 3) rfl ?_
    refine X_iload C dX2_unlikeBoth_29 (j := 6) rfl ?_
    refine X_callV C dX2_unlikeBoth_31 pw_RX2_55 (b := 5) (as := [.int x2, .int x5]) (S := [.int v4]) sh_5 rfl rfl rfl (Nat.le_of_ble_eq_true rfl) (Ct_mono h ?_)
    rintro _ s5 ⟨v6, rfl, h⟩
    show X κ 34 [(6, .int v4), (0, .ref 5), (1, .int x1), (2, .int x2), (3, .int x3), (4, .int x4), (5, .int x5)] [.int v6, .int v4] s5
    refine X_callS C dX2_unlikeBoth_34 pw_RX2_70 (as := [.int v4, .int v6]) (S := []) rfl rfl (Nat.le_of_ble_eq_true rfl) (Ct_mono h ?_)
    rintro _ s7 ⟨v8, rfl, h⟩
    show X κ 37 [(6, .int v4), (0, .ref 5), (1, .int x1), (2, .int x2), (3, .int x3), (4, .int x4), (5, .int x5)] [.int v8] s7
    refine X_if_eq C dX2_unlikeBoth_37 (tgt := 58) (by decide) (fun c => ?_) (fun c => ?_)
    · replace h := h.1 c
      refine X_iinc C dX2_unlikeBoth_58 (j := 6) rfl (v := x5 + 1) rfl (by decide) (L' := [(5, .int (x5 + 1)), (6, .int v4), (0, .ref 5), (1, .int x1), (2, .int x2), (3, .int x3), (4, .int x4)]) rfl ?_
      refine X_goto C dX2_unlikeBoth_61 (tgt := 6) (by decide) ?_
      refine X_loc [2, 3, 4, 5, 6, 0] rfl ?_
      exact h
    · replace h := h.2 c
      refine X_iload C dX2_unlikeBoth_40 (j := 0) rfl ?_
      refine X_aload_n C dX2_unlikeBoth_42 rfl (j := 1) rfl ?_
      refine X_iload_n C dX2_unlikeBoth_43 rfl (j := 4) rfl ?_
      refine X_iload C dX2_unlikeBoth_44 (j := 6) rfl ?_
      refine X_callV C dX2_unlikeBoth_46 pw_RX2_55 (b := 5) (as := [.int x3, .int x5]) (S := [.int v4]) sh_5 rfl rfl rfl (Nat.le_of_ble_eq_true rfl) (Ct_mono h ?_)
      rintro _ s9 ⟨v10, rfl, h⟩
      show X κ 49 [(6, .int v4), (0, .ref 5), (1, .int x1), (2, .int x2), (3, .int x3), (4, .int x4), (5, .int x5)] [.int v10, .int v4] s9
      refine X_callS C dX2_unlikeBoth_49 pw_RX2_70 (as := [.int v4, .int v10]) (S := []) rfl rfl (Nat.le_of_ble_eq_true rfl) (Ct_mono h ?_)
      rintro _ s11 ⟨v12, rfl, h⟩
      show X κ 52 [(6, .int v4), (0, .ref 5), (1, .int x1), (2, .int x2), (3, .int x3), (4, .int x4), (5, .int x5)] [.int v12] s11
      refine X_if_eq C dX2_unlikeBoth_52 (tgt := 58) (by decide) (fun c => ?_) (fun c => ?_)
      · replace h := h.1 c
        refine X_iinc C dX2_unlikeBoth_58 (j := 6) rfl (v := x5 + 1) rfl (by decide) (L' := [(5, .int (x5 + 1)), (6, .int v4), (0, .ref 5), (1, .int x1), (2, .int x2), (3, .int x3), (4, .int x4)]) rfl ?_
        refine X_goto C dX2_unlikeBoth_61 (tgt := 6) (by decide) ?_
        refine X_loc [2, 3, 4, 5, 6, 0] rfl ?_
        exact h
      · replace h := h.2 c
        refine X_iinc C dX2_unlikeBoth_55 (j := 5) rfl (v := x4 + 1) rfl (by decide) (L' := [(4, .int (x4 + 1)), (6, .int v4), (0, .ref 5), (1, .int x1), (2, .int x2), (3, .int x3), (5, .int x5)]) rfl ?_
        refine X_iinc C dX2_unlikeBoth_58 (j := 6) rfl (v := x5 + 1) rfl (by decide) (L' := [(5, .int (x5 + 1)), (4, .int (x4 + 1)), (6, .int v4), (0, .ref 5), (1, .int x1), (2, .int x2), (3, .int x3)]) rfl ?_
        refine X_goto C dX2_unlikeBoth_61 (tgt := 6) (by decide) ?_
        refine X_loc [3, 4, 5, 6, 1, 0] rfl ?_
        exact h
set_option maxHeartbeats 4000000 in
set_option maxRecDepth 100000 in
theorem eX2_unlikeBoth {d : Nat} {Q : Option Value → xSt → Prop} (a1 : Int32) (a2 : Int32) (a3 : Int32) (st : xSt) (h : ∀ κ : xK, Cx κ M_X2_unlikeBoth (d + 1) → xR κ Q → X κ 6 [(0, .ref 5), (1, .int a1), (2, .int a2), (3, .int a3), (4, .int 0), (5, .int 0)] [] st) : Ct (d + 1) M_X2_unlikeBoth [.ref 5, .int a1, .int a2, .int a3] st Q := by
  refine Ct_of (by decide +kernel) (Nat.le_of_ble_eq_true rfl) (fun κ C Z => ?_)
  replace h := h κ C Z
  show X κ 0 [(0, .ref 5), (1, .int a1), (2, .int a2), (3, .int a3)] [] st
  refine X_iconst C (v := 0) (by decide) dX2_unlikeBoth_0 ?_
  refine X_istore C dX2_unlikeBoth_1 (by decide) (L' := [(4, .int 0), (0, .ref 5), (1, .int a1), (2, .int a2), (3, .int a3)]) rfl ?_
  refine X_iconst C (v := 0) (by decide) dX2_unlikeBoth_3 ?_
  refine X_istore C dX2_unlikeBoth_4 (by decide) (L' := [(5, .int 0), (4, .int 0), (0, .ref 5), (1, .int a1), (2, .int a2), (3, .int a3)]) rfl ?_
  refine X_loc [2, 3, 4, 5, 1, 0] rfl ?_
  exact h
set_option maxHeartbeats 4000000 in
set_option maxRecDepth 100000 in
theorem bX2_sharedSlips_20 {κ : xK} {d : Nat} {Q : Option Value → xSt → Prop} (C : Cx κ M_X2_sharedSlips (d + 1)) (Z : xR κ Q) (x1 : Int32) (x2 : Int32) (x3 : Int32) (x4 : Int32) (x5 : Int32) (st : xSt) (h : Ct d M_X2_lengthOf [.ref 5, .int x1] st (Qi fun v2 s1 => ((v2 ≤ x5 → Q (some (.int x3)) s1) ∧ (¬ v2 ≤ x5 → Ct d M_X2_item [.ref 5, .int x1, .int x5] s1 (Qi fun v4 s3 => ((v4 = ((-1)) → X κ 20 [(0, .ref 5), (1, .int x1), (2, .int x2), (3, .int x3), (4, .int x4), (5, .int (x5 + 1))] [] s3) ∧ (¬ v4 = ((-1)) → Ct d M_X2_item [.ref 5, .int x2, .int x5] s3 (Qi fun v6 s5 => ((¬ v4 = v6 → X κ 20 [(0, .ref 5), (1, .int x1), (2, .int x2), (3, .int x3), (4, .int x4), (5, .int (x5 + 1))] [] s5) ∧ (v4 = v6 → Ct d M_X2_wasSaid [.ref 5, .int v4, .int x5, .int x4] s5 (Qi fun v8 s7 => ((¬ v8 = 0 → X κ 20 [(0, .ref 5), (1, .int x1), (2, .int x2), (3, .int x3), (4, .int x4), (5, .int (x5 + 1))] [] s7) ∧ (v8 = 0 → X κ 20 [(0, .ref 5), (1, .int x1), (2, .int x2), (3, .int (x3 + 1)), (4, .int x4), (5, .int (x5 + 1))] [] s7))))))))))))) : X κ 20 [(0, .ref 5), (1, .int x1), (2, .int x2), (3, .int x3), (4, .int x4), (5, .int x5)] [] st := by
  refine X_iload C dX2_sharedSlips_20 (j := 5) rfl ?_
  refine X_aload_n C dX2_sharedSlips_22 rfl (j := 0) rfl ?_
  refine X_iload_n C dX2_sharedSlips_23 rfl (j := 1) rfl ?_
  refine X_callV C dX2_sharedSlips_24 pw_RX2_51 (b := 5) (as := [.int x1]) (S := [.int x5]) sh_5 rfl rfl rfl (Nat.le_of_ble_eq_true rfl) (Ct_mono h ?_)
  rintro _ s1 ⟨v2, rfl, h⟩
  show X κ 27 [(0, .ref 5), (1, .int x1), (2, .int x2), (3, .int x3), (4, .int x4), (5, .int x5)] [.int v2, .int x5] s1
  refine X_icmp_ge C dX2_sharedSlips_27 (tgt := 79) (by decide) (fun c => ?_) (fun c => ?_)
  · replace h := h.1 c
    refine X_iload_n C dX2_sharedSlips_79 rfl (j := 3) rfl ?_
    exact X_iret C Z rfl dX2_sharedSlips_80 h
  · replace h := h.2 c
    refine X_aload_n C dX2_sharedSlips_30 rfl (j := 0) rfl ?_
    refine X_iload_n C dX2_sharedSlips_31 rfl (j := 1) rfl ?_
    refine X_iload C dX2_sharedSlips_32 (j := 5) rfl ?_
    refine X_callV C dX2_sharedSlips_34 pw_RX2_55 (b := 5) (as := [.int x1, .int x5]) (S := []) sh_5 rfl rfl rfl (Nat.le_of_ble_eq_true rfl) (Ct_mono h ?_)
    rintro _ s3 ⟨v4, rfl, h⟩
    show X κ 37 [(0, .ref 5), (1, .int x1), (2, .int x2), (3, .int x3), (4, .int x4), (5, .int x5)] [.int v4] s3
    refine X_istore C dX2_sharedSlips_37 (by decide) (L' := [(6, .int v4), (0, .ref 5), (1, .int x1), (2, .int x2), (3, .int x3), (4, .int x4), (5, .int x5)]) rfl ?_
    refine X_iload C dX2_sharedSlips_39 (j := 0) rfl ?_
    refine X_iconst C (v := (-1)) (by decide) dX2_sharedSlips_41 ?_
    refine X_icmp_eq C dX2_sharedSlips_42 (tgt := 73) (by decide) (fun c => ?_) (fun c => ?_)
    · replace h := h.1 c
      refine X_iinc C dX2_sharedSlips_73 (j := 6) rfl (v := x5 + 1) rfl (by decide) (L' := [(5, .int (x5 + 1)), (6, .int v4), (0, .ref 5), (1, .int x1), (2, .int x2), (3, .int x3), (4, .int x4)]) rfl ?_
      refine X_goto C dX2_sharedSlips_76 (tgt := 20) (by decide) ?_
      refine X_loc [2, 3, 4, 5, 6, 0] rfl ?_
      exact h
    · replace h := h.2 c
      refine X_iload C dX2_sharedSlips_45 (j := 0) rfl ?_
      refine X_aload_n C dX2_sharedSlips_47 rfl (j := 1) rfl ?_
      refine X_iload_n C dX2_sharedSlips_48 rfl (j := 3) rfl ?_
      refine X_iload C dX2_sharedSlips_49 (j := 6) rfl ?_
      refine X_callV C dX2_sharedSlips_51 pw_RX2_55 (b := 5) (as := [.int x2, .int x5]) (S := [.int v4]) sh_5 rfl rfl rfl (Nat.le_of_ble_eq_true rfl) (Ct_mono h ?_)
      rintro _ s5 ⟨v6, rfl, h⟩
      show X κ 54 [(6, .int v4), (0, .ref 5), (1, .int x1), (2, .int x2), (3, .int x3), (4, .int x4), (5, .int x5)] [.int v6, .int v4] s5
      refine X_icmp_ne C dX2_sharedSlips_54 (tgt := 73) (by decide) (fun c => ?_) (fun c => ?_)
      · replace h := h.1 c
        refine X_iinc C dX2_sharedSlips_73 (j := 6) rfl (v := x5 + 1) rfl (by decide) (L' := [(5, .int (x5 + 1)), (6, .int v4), (0, .ref 5), (1, .int x1), (2, .int x2), (3, .int x3), (4, .int x4)]) rfl ?_
        refine X_goto C dX2_sharedSlips_76 (tgt := 20) (by decide) ?_
        refine X_loc [2, 3, 4, 5, 6, 0] rfl ?_
        exact h
      · replace h := h.2 c
        refine X_aload_n C dX2_sharedSlips_57 rfl (j := 1) rfl ?_
        refine X_iload C dX2_sharedSlips_58 (j := 0) rfl ?_
        refine X_iload C dX2_sharedSlips_60 (j := 6) rfl ?_
        refine X_iload C dX2_sharedSlips_62 (j := 5) rfl ?_
        refine X_callV C dX2_sharedSlips_64 pw_RX2_95 (b := 5) (as := [.int v4, .int x5, .int x4]) (S := []) sh_5 rfl rfl rfl (Nat.le_of_ble_eq_true rfl) (Ct_mono h ?_)
        rintro _ s7 ⟨v8, rfl, h⟩
        show X κ 67 [(6, .int v4), (0, .ref 5), (1, .int x1), (2, .int x2), (3, .int x3), (4, .int x4), (5, .int x5)] [.int v8] s7
        refine X_if_ne C dX2_sharedSlips_67 (tgt := 73) (by decide) (fun c => ?_) (fun c => ?_)
        · replace h := h.1 c
          refine X_iinc C dX2_sharedSlips_73 (j := 6) rfl (v := x5 + 1) rfl (by decide) (L' := [(5, .int (x5 + 1)), (6, .int v4), (0, .ref 5), (1, .int x1), (2, .int x2), (3, .int x3), (4, .int x4)]) rfl ?_
          refine X_goto C dX2_sharedSlips_76 (tgt := 20) (by decide) ?_
          refine X_loc [2, 3, 4, 5, 6, 0] rfl ?_
          exact h
        · replace h := h.2 c
          refine X_iinc C dX2_sharedSlips_70 (j := 4) rfl (v := x3 + 1) rfl (by decide) (L' := [(3, .int (x3 + 1)), (6, .int v4), (0, .ref 5), (1, .int x1), (2, .int x2), (4, .int x4), (5, .int x5)]) rfl ?_
          refine X_iinc C dX2_sharedSlips_73 (j := 6) rfl (v := x5 + 1) rfl (by decide) (L' := [(5, .int (x5 + 1)), (3, .int (x3 + 1)), (6, .int v4), (0, .ref 5), (1, .int x1), (2, .int x2), (4, .int x4)]) rfl ?_
          refine X_goto C dX2_sharedSlips_76 (tgt := 20) (by decide) ?_
          refine X_loc [3, 4, 5, 1, 6, 0] rfl ?_
          exact h
set_option maxHeartbeats 4000000 in
set_option maxRecDepth 100000 in
theorem eX2_sharedSlips {d : Nat} {Q : Option Value → xSt → Prop} (a1 : Int32) (a2 : Int32) (st : xSt) (h : ∀ κ : xK, Cx κ M_X2_sharedSlips (d + 1) → xR κ Q → Ct d M_X2_yearOf [.ref 5, .int a1] st (Qi fun v2 s1 => Ct d M_X2_yearOf [.ref 5, .int a2] s1 (Qi fun v4 s3 => X κ 20 [(0, .ref 5), (1, .int a1), (2, .int a2), (3, .int 0), (4, .int (imin v2 v4)), (5, .int 0)] [] s3))) : Ct (d + 1) M_X2_sharedSlips [.ref 5, .int a1, .int a2] st Q := by
  refine Ct_of (by decide +kernel) (Nat.le_of_ble_eq_true rfl) (fun κ C Z => ?_)
  replace h := h κ C Z
  show X κ 0 [(0, .ref 5), (1, .int a1), (2, .int a2)] [] st
  refine X_iconst C (v := 0) (by decide) dX2_sharedSlips_0 ?_
  refine X_istore_n C dX2_sharedSlips_1 rfl (by decide) (L' := [(3, .int 0), (0, .ref 5), (1, .int a1), (2, .int a2)]) rfl ?_
  refine X_aload_n C dX2_sharedSlips_2 rfl (j := 1) rfl ?_
  refine X_iload_n C dX2_sharedSlips_3 rfl (j := 2) rfl ?_
  refine X_callV C dX2_sharedSlips_4 pw_RX2_79 (b := 5) (as := [.int a1]) (S := []) sh_5 rfl rfl rfl (Nat.le_of_ble_eq_true rfl) (Ct_mono h ?_)
  rintro _ s1 ⟨v2, rfl, h⟩
  show X κ 7 [(3, .int 0), (0, .ref 5), (1, .int a1), (2, .int a2)] [.int v2] s1
  refine X_aload_n C dX2_sharedSlips_7 rfl (j := 1) rfl ?_
  refine X_iload_n C dX2_sharedSlips_8 rfl (j := 3) rfl ?_
  refine X_callV C dX2_sharedSlips_9 pw_RX2_79 (b := 5) (as := [.int a2]) (S := [.int v2]) sh_5 rfl rfl rfl (Nat.le_of_ble_eq_true rfl) (Ct_mono h ?_)
  rintro _ s3 ⟨v4, rfl, h⟩
  show X κ 12 [(3, .int 0), (0, .ref 5), (1, .int a1), (2, .int a2)] [.int v4, .int v2] s3
  refine X_mmin C dX2_sharedSlips_12 mm_RX2_65 (Nat.le_of_ble_eq_true rfl) ?_
  refine X_istore C dX2_sharedSlips_15 (by decide) (L' := [(4, .int (imin v2 v4)), (3, .int 0), (0, .ref 5), (1, .int a1), (2, .int a2)]) rfl ?_
  refine X_iconst C (v := 0) (by decide) dX2_sharedSlips_17 ?_
  refine X_istore C dX2_sharedSlips_18 (by decide) (L' := [(5, .int 0), (4, .int (imin v2 v4)), (3, .int 0), (0, .ref 5), (1, .int a1), (2, .int a2)]) rfl ?_
  refine X_loc [3, 4, 5, 2, 1, 0] rfl ?_
  exact h
set_option maxHeartbeats 4000000 in
set_option maxRecDepth 100000 in
theorem bX2_wasSaid_3 {κ : xK} {d : Nat} {Q : Option Value → xSt → Prop} (C : Cx κ M_X2_wasSaid (d + 1)) (Z : xR κ Q) (x1 : Int32) (x2 : Int32) (x3 : Int32) (x4 : Int32) (st : xSt) (h : (((st.1 5 5) ≤ x4 → Q (some (.int 0)) st) ∧ (¬ (st.1 5 5) ≤ x4 → Ct d M_X2_yearOf [.ref 5, .int x4] st (Qi fun v2 s1 => ((x3 ≤ v2 → X κ 3 [(0, .ref 5), (1, .int x1), (2, .int x2), (3, .int x3), (4, .int (x4 + 1))] [] s1) ∧ (¬ x3 ≤ v2 → Ct d M_X2_item [.ref 5, .int x4, .int x2] s1 (Qi fun v4 s3 => ((¬ v4 = x1 → X κ 3 [(0, .ref 5), (1, .int x1), (2, .int x2), (3, .int x3), (4, .int (x4 + 1))] [] s3) ∧ (v4 = x1 → Q (some (.int 1)) s3))))))))) : X κ 3 [(0, .ref 5), (1, .int x1), (2, .int x2), (3, .int x3), (4, .int x4)] [] st := by
  refine X_iload C dX2_wasSaid_3 (j := 4) rfl ?_
  refine X_aload_n C dX2_wasSaid_5 rfl (j := 0) rfl ?_
  refine X_getI C sh_5 rfl fw_RX2_29 dX2_wasSaid_6 ?_
  refine X_icmp_ge C dX2_wasSaid_9 (tgt := 41) (by decide) (fun c => ?_) (fun c => ?_)
  · replace h := h.1 c
    refine X_iconst C (v := 0) (by decide) dX2_wasSaid_41 ?_
    exact X_zret C Z rfl (by decide) dX2_wasSaid_42 h
  · replace h := h.2 c
    refine X_aload_n C dX2_wasSaid_12 rfl (j := 0) rfl ?_
    refine X_iload C dX2_wasSaid_13 (j := 4) rfl ?_
    refine X_callV C dX2_wasSaid_15 pw_RX2_79 (b := 5) (as := [.int x4]) (S := []) sh_5 rfl rfl rfl (Nat.le_of_ble_eq_true rfl) (Ct_mono h ?_)
    rintro _ s1 ⟨v2, rfl, h⟩
    show X κ 18 [(0, .ref 5), (1, .int x1), (2, .int x2), (3, .int x3), (4, .int x4)] [.int v2] s1
    refine X_iload_n C dX2_wasSaid_18 rfl (j := 3) rfl ?_
    refine X_icmp_ge C dX2_wasSaid_19 (tgt := 35) (by decide) (fun c => ?_) (fun c => ?_)
    · replace h := h.1 c
      refine X_iinc C dX2_wasSaid_35 (j := 4) rfl (v := x4 + 1) rfl (by decide) (L' := [(4, .int (x4 + 1)), (0, .ref 5), (1, .int x1), (2, .int x2), (3, .int x3)]) rfl ?_
      refine X_goto C dX2_wasSaid_38 (tgt := 3) (by decide) ?_
      refine X_loc [1, 2, 3, 4, 0] rfl ?_
      exact h
    · replace h := h.2 c
      refine X_aload_n C dX2_wasSaid_22 rfl (j := 0) rfl ?_
      refine X_iload C dX2_wasSaid_23 (j := 4) rfl ?_
      refine X_iload_n C dX2_wasSaid_25 rfl (j := 2) rfl ?_
      refine X_callV C dX2_wasSaid_26 pw_RX2_55 (b := 5) (as := [.int x4, .int x2]) (S := []) sh_5 rfl rfl rfl (Nat.le_of_ble_eq_true rfl) (Ct_mono h ?_)
      rintro _ s3 ⟨v4, rfl, h⟩
      show X κ 29 [(0, .ref 5), (1, .int x1), (2, .int x2), (3, .int x3), (4, .int x4)] [.int v4] s3
      refine X_iload_n C dX2_wasSaid_29 rfl (j := 1) rfl ?_
      refine X_icmp_ne C dX2_wasSaid_30 (tgt := 35) (by decide) (fun c => ?_) (fun c => ?_)
      · replace h := h.1 c
        refine X_iinc C dX2_wasSaid_35 (j := 4) rfl (v := x4 + 1) rfl (by decide) (L' := [(4, .int (x4 + 1)), (0, .ref 5), (1, .int x1), (2, .int x2), (3, .int x3)]) rfl ?_
        refine X_goto C dX2_wasSaid_38 (tgt := 3) (by decide) ?_
        refine X_loc [1, 2, 3, 4, 0] rfl ?_
        exact h
      · replace h := h.2 c
        refine X_iconst C (v := 1) (by decide) dX2_wasSaid_33 ?_
        exact X_zret C Z rfl (by decide) dX2_wasSaid_34 h
set_option maxHeartbeats 4000000 in
set_option maxRecDepth 100000 in
theorem eX2_wasSaid {d : Nat} {Q : Option Value → xSt → Prop} (a1 : Int32) (a2 : Int32) (a3 : Int32) (st : xSt) (h : ∀ κ : xK, Cx κ M_X2_wasSaid (d + 1) → xR κ Q → X κ 3 [(0, .ref 5), (1, .int a1), (2, .int a2), (3, .int a3), (4, .int 0)] [] st) : Ct (d + 1) M_X2_wasSaid [.ref 5, .int a1, .int a2, .int a3] st Q := by
  refine Ct_of (by decide +kernel) (Nat.le_of_ble_eq_true rfl) (fun κ C Z => ?_)
  replace h := h κ C Z
  show X κ 0 [(0, .ref 5), (1, .int a1), (2, .int a2), (3, .int a3)] [] st
  refine X_iconst C (v := 0) (by decide) dX2_wasSaid_0 ?_
  refine X_istore C dX2_wasSaid_1 (by decide) (L' := [(4, .int 0), (0, .ref 5), (1, .int a1), (2, .int a2), (3, .int a3)]) rfl ?_
  refine X_loc [1, 2, 3, 4, 0] rfl ?_
  exact h
