/-! the law's loop: whatever call the script spells, the two answer alike -/
theorem insL {d : Nat} {M : xM} {as : List Value} {st : xSt} {A : Prop} {F : Int32 → xSt → Prop} (hA : A) (h : Ct d M as st (Qi F)) : Ct d M as st (Qi fun v s => A ∧ F v s) := Ct_mono h (fun _ _ ⟨v, e, k⟩ => ⟨v, e, hA, k⟩)
theorem law_loop {κ : xK} {Ln : Nat} {xs : Nat → Int32} (C : Cx κ M_L_law 61) (Z : xRL κ) (SC : xSc κ Ln xs) (hL : Ln ≤ 3072) : ∀ (f i : Nat) (st : xSt), i ≤ 4000 → Ln ≤ i + f → RR st → X κ 18 [(0, .ref 9999), (1, .ref 0), (2, .ref 7), (3, .int (nI i))] [] st
  | 0, i, st, hi, e, hR => by
    refine bL_law_18 C Z SC _ _ (brT ?_ trivial)
    have h2 : (nI Ln - nI 6).toInt = (Ln : Int) - (6 : Nat) := pk_sub_toInt (by omega) (by omega)
    refine Int32.lt_iff_toInt_lt.mpr ?_
    show (nI Ln - nI 6).toInt < _
    rw [h2, nI_toInt (by omega)]
    omega
  | f + 1, i, st, hi, e, hR => by
    have h2 : (nI Ln - nI 6).toInt = (Ln : Int) - (6 : Nat) := pk_sub_toInt (by omega) (by omega)
    by_cases g : Ln < i + 6
    · refine bL_law_18 C Z SC _ _ (brT ?_ trivial)
      refine Int32.lt_iff_toInt_lt.mpr ?_
      show (nI Ln - nI 6).toInt < _
      rw [h2, nI_toInt (by omega)]
      omega
    · have v1 : vp_in (nI i + 1) Ln := by rw [nI_1]; exact pk_in (i + 1) Ln (by omega)
      have v2 : vp_in (nI i + 2) Ln := by rw [show nI i + 2 = nI (i + 2) from nI_add i 2]; exact pk_in (i + 2) Ln (by omega)
      have v3 : vp_in (nI i + 3) Ln := by rw [show nI i + 3 = nI (i + 3) from nI_add i 3]; exact pk_in (i + 3) Ln (by omega)
      have v4 : vp_in (nI i + 4) Ln := by rw [show nI i + 4 = nI (i + 4) from nI_add i 4]; exact pk_in (i + 4) Ln (by omega)
      have v5 : vp_in (nI i + 5) Ln := by rw [show nI i + 5 = nI (i + 5) from nI_add i 5]; exact pk_in (i + 5) Ln (by omega)
      have nx : ∀ st', RR st' → X κ 18 [(0, .ref 9999), (1, .ref 0), (2, .ref 7), (3, .int (nI i + 6))] [] st' := fun st' hR' => by
        rw [show nI i + 6 = nI (i + 6) from nI_add i 6]
        exact law_loop C Z SC hL f (i + 6) st' (by omega) (by omega) hR'
      have eq : ∀ (v : Int32) (st' : xSt), RR st' → ((v = v → X κ 18 [(0, .ref 9999), (1, .ref 0), (2, .ref 7), (3, .int (nI i + 6))] [] st') ∧ (¬ v = v → False)) := fun v st' hR' => ⟨fun _ => nx st' hR', fun n => n rfl⟩
      clear h2
      refine bL_law_18 C Z SC _ _ (brF ?_ ⟨pk_in i Ln (by omega), ?_⟩)
      · intro q
        have q2 := Int32.lt_iff_toInt_lt.mp q
        have h2 : (nI Ln - nI 6).toInt = (Ln : Int) - (6 : Nat) := pk_sub_toInt (by omega) (by omega)
        have q3 : (nI Ln - nI 6).toInt < (nI i).toInt := q2
        rw [h2, nI_toInt (by omega)] at q3
        omega
      · refine ⟨fun _ => nx st hR, ?_, ?_, ?_, ?_, ?_, ?_, ?_, ?_, ?_, ?_, ?_, ?_, ?_, ?_, ?_, ?_, ?_, ?_, ?_, ?_, ?_, ?_, ?_, ?_, ?_, ?_, ?_, ?_, ?_, ?_, ?_, ?_, ?_, ?_, ?_, ?_, ?_, ?_, ?_, ?_, ?_, ?_, ?_, ?_, ?_, ?_, ?_, ?_, ?_, ?_, ?_⟩
        · refine fun _ => ⟨v1, v2, v3, fun z => insL v1 (insL v2 (insL v3 (Ct_mono (g_countBy _ _ 0 (by omega) st hR _ eq) (fun _ _ ⟨v, e, k⟩ => ⟨v, e, fun _ => k, fun n => (n z).elim⟩)))), fun z => insL v1 (insL v2 (insL v3 (Ct_mono (g_countBy _ _ 1 (by omega) st hR _ eq) (fun _ _ ⟨v, e, k⟩ => ⟨v, e, fun n => (z n).elim, fun _ => k⟩))))⟩
        · exact fun _ => ⟨v1, v2, insL v1 (insL v2 (g_begins _ _ st hR _ eq))⟩
        · exact fun _ => ⟨v1, v2, insL v1 (insL v2 (g_about _ _ st hR _ eq))⟩
        · exact fun _ => ⟨v1, v2, v3, insL v1 (insL v2 (insL v3 (g_place _ _ _ st hR _ eq)))⟩
        · exact fun _ => ⟨v1, v2, v3, insL v1 (insL v2 (insL v3 (g_number _ _ _ st hR _ eq)))⟩
        · exact fun _ => ⟨v1, v2, v3, insL v1 (insL v2 (insL v3 (g_value _ _ _ st hR _ eq)))⟩
        · exact fun _ => ⟨v1, v2, v3, v4, v5, insL v1 (insL v2 (insL v3 (insL v4 (insL v5 (g_meanings _ _ _ _ _ st hR _ eq)))))⟩
        · exact fun _ => ⟨v1, v2, v3, v4, v5, insL v1 (insL v2 (insL v3 (insL v4 (insL v5 (g_meaning _ _ _ _ _ st hR _ eq)))))⟩
        · exact fun _ => ⟨v1, insL v1 (g_mat _ st hR _ eq)⟩
        · exact fun _ => ⟨v1, v2, v3, v4, v5, insL v1 (insL v2 (insL v3 (insL v4 (insL v5 (g_clue _ _ _ _ _ st hR _ eq)))))⟩
        · exact fun _ => ⟨v1, v2, v3, insL v1 (insL v2 (insL v3 (g_sum _ _ _ st hR _ eq)))⟩
        · exact fun _ => ⟨v1, v2, insL v1 (insL v2 (g_less _ _ st hR _ eq))⟩
        · exact fun _ => ⟨v1, v2, v3, insL v1 (insL v2 (insL v3 (g_mats _ _ _ st hR _ eq)))⟩
        · exact fun _ => g_forget st hR _ eq
        · exact fun _ => g_solutions st hR _ eq
        · exact fun _ => ⟨v1, v2, insL v1 (insL v2 (g_solution _ _ st hR _ eq))⟩
        · exact fun _ => ⟨v1, insL v1 (g_sure _ st hR _ eq)⟩
        · exact fun _ => g_quarrel st hR _ eq
        · exact fun _ => ⟨v1, v2, v3, insL v1 (insL v2 (insL v3 (g_heard _ _ _ st hR _ eq)))⟩
        · exact fun _ => ⟨v1, v2, v3, insL v1 (insL v2 (insL v3 (g_clear _ _ _ st hR _ eq)))⟩
        · exact fun _ => ⟨v1, v2, insL v1 (insL v2 (g_trap _ _ st hR _ eq))⟩
        · exact fun _ => ⟨v1, insL v1 (g_person _ st hR _ eq)⟩
        · exact fun _ => ⟨v1, v2, v3, insL v1 (insL v2 (insL v3 (g_gift _ _ _ st hR _ eq)))⟩
        · exact fun _ => ⟨v1, v2, insL v1 (insL v2 (g_owed _ _ st hR _ eq))⟩
        · exact fun _ => ⟨v1, v2, insL v1 (insL v2 (g_told _ _ st hR _ eq))⟩
        · exact fun _ => g_close st hR _ eq
        · exact fun _ => ⟨v1, insL v1 (g_worth _ st hR _ eq)⟩
        · exact fun _ => ⟨v1, v2, v3, insL v1 (insL v2 (insL v3 (g_list _ _ _ st hR _ eq)))⟩
        · exact fun _ => ⟨v1, v2, insL v1 (insL v2 (g_word _ _ st hR _ eq))⟩
        · exact fun _ => ⟨v1, v2, insL v1 (insL v2 (g_listIs _ _ st hR _ eq))⟩
        · exact fun _ => ⟨v1, v2, insL v1 (insL v2 (g_changes _ _ st hR _ eq))⟩
        · exact fun _ => ⟨v1, insL v1 (g_mother _ st hR _ eq)⟩
        · exact fun _ => ⟨v1, insL v1 (g_mothers _ st hR _ eq)⟩
        · exact fun _ => ⟨v1, insL v1 (g_strange _ st hR _ eq)⟩
        · exact fun _ => ⟨v1, insL v1 (g_age _ st hR _ eq)⟩
        · exact fun _ => ⟨v1, v2, insL v1 (insL v2 (g_slips _ _ st hR _ eq))⟩
        · exact fun _ => ⟨v1, v2, insL v1 (insL v2 (g_readings _ _ st hR _ eq))⟩
        · exact fun _ => ⟨v1, v2, v3, insL v1 (insL v2 (insL v3 (g_reading _ _ _ st hR _ eq)))⟩
        · exact fun _ => ⟨v1, v2, v3, v4, v5, insL v1 (insL v2 (insL v3 (insL v4 (insL v5 (g_fits _ _ _ _ _ st hR _ eq)))))⟩
        · exact fun _ => ⟨v1, insL v1 (g_type _ st hR _ eq)⟩
        · exact fun _ => g_hush st hR _ eq
        · exact fun _ => g_fault st hR _ eq
        · exact fun _ => ⟨v1, insL v1 (g_speech _ st hR _ eq)⟩
        · exact fun _ => ⟨v1, v2, v3, insL v1 (insL v2 (insL v3 (g_sheet _ _ _ st hR _ eq)))⟩
        · exact fun _ => ⟨v1, insL v1 (g_lose _ st hR _ eq)⟩
        · exact fun _ => ⟨v1, v2, v3, v4, insL v1 (insL v2 (insL v3 (insL v4 (g_put _ _ _ _ st hR _ eq))))⟩
        · exact fun _ => ⟨v1, v2, v3, insL v1 (insL v2 (insL v3 (g_get _ _ _ st hR _ eq)))⟩
        · exact fun _ => ⟨v1, v2, v3, v4, v5, insL v1 (insL v2 (insL v3 (insL v4 (insL v5 (g_copy _ _ _ _ _ st hR _ eq)))))⟩
        · exact fun _ => ⟨v1, v2, v3, v4, insL v1 (insL v2 (insL v3 (insL v4 (g_write _ _ _ _ st hR _ eq))))⟩
        · exact fun _ => ⟨v1, insL v1 (g_count _ st hR _ eq)⟩
        · exact fun _ => g_digest hR (fun v st' hR' => ⟨fun _ => nx st' hR', fun n => n ((lg_cmp_eq _ _).mpr rfl)⟩)
