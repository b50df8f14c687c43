theorem bX10_stolen_62 {C : Nat → List Vv → Sg → Rs → Sg → Prop} {X : Nat → List Vv → List Vv → Sg → Prop} {Xr : List Vv → Sg → Prop} {Xt : Nat → Sg → Prop} (hC : Clo C 10 cX10_stolen (some .int) X Xr Xt) {x1 x2 x4 x6 x8 x9 : Int} {σ : Sg} (h : if x9 < (σ 7 1) then (∃ v1 : Int, C MX8_held [rV 17 7, iV x1, iV x9] σ (.inl [iV v1]) σ ∧ (if (0 : Int) < v1 then (∃ v2 : Int, C MX8_primeOf [rV 17 7, iV x9] σ (.inl [iV v2]) σ ∧ (v2 ≠ 0 ∧ (x2 ≠ 0 ∧ (if ((w64 (x6.tdiv v2)).tmod x2) = x4 then (X 62 [rV 19 0, iV x1, lV x2, uV, lV x4, uV, lV x6, uV, iV (iorI x8 (ishlI 1 x9)), iV (w32 (x9 + 1))] [] σ) else (X 62 [rV 19 0, iV x1, lV x2, uV, lV x4, uV, lV x6, uV, iV x8, iV (w32 (x9 + 1))] [] σ))))) else (X 62 [rV 19 0, iV x1, lV x2, uV, lV x4, uV, lV x6, uV, iV x8, iV (w32 (x9 + 1))] [] σ))) else (Xr [iV x8] σ)) : X 62 [rV 19 0, iV x1, lV x2, uV, lV x4, uV, lV x6, uV, iV x8, iV x9] [] σ := by
  refine st_iload (pc := 62) hC dX10_stolen_62 rfl ?_
  refine st_aload_n (pc := 64) hC dX10_stolen_64 rfl (by decide) (by decide) ?_
  refine st_getf (ci := 9) (f := 4) (v := rV 17 7) (pc := 65) hC dX10_stolen_65 fl_10_26 rfl rfl ?_
  refine st_getf (ci := 7) (f := 1) (v := iV (σ 7 1)) (pc := 68) hC dX10_stolen_68 fl_10_117 rfl rfl ?_
  refine st_icmp_ge (tg := 123) (pc := 71) hC dX10_stolen_71 (by decide) (ite_im h (fun h => ?_) (fun h => ?_))
  · refine st_aload_n (pc := 74) hC dX10_stolen_74 rfl (by decide) (by decide) ?_
    refine st_getf (ci := 9) (f := 4) (v := rV 17 7) (pc := 75) hC dX10_stolen_75 fl_10_26 rfl rfl ?_
    refine st_iload_n (pc := 78) hC dX10_stolen_78 rfl ?_
    refine st_iload (pc := 79) hC dX10_stolen_79 rfl ?_
    obtain ⟨v1, hq, h⟩ := h
    refine st_invV (As := [iV x1, iV x9]) (v := [iV v1]) (S := []) (pc := 81) hC dX10_stolen_81 cl_10_135 rfl rfl (Nat.le_of_ble_eq_true rfl) cr_X8_held hq ?_
    refine st_if_le (tg := 117) (pc := 84) hC dX10_stolen_84 (by decide) (ite_im h (fun h => ?_) (fun h => ?_))
    · refine st_lload (pc := 87) hC dX10_stolen_87 rfl ?_
      refine st_aload_n (pc := 89) hC dX10_stolen_89 rfl (by decide) (by decide) ?_
      refine st_getf (ci := 9) (f := 4) (v := rV 17 7) (pc := 90) hC dX10_stolen_90 fl_10_26 rfl rfl ?_
      refine st_iload (pc := 93) hC dX10_stolen_93 rfl ?_
      obtain ⟨v2, hq, h⟩ := h
      refine st_invV (As := [iV x9]) (v := [iV v2]) (S := [lV x6]) (pc := 95) hC dX10_stolen_95 cl_10_125 rfl rfl (Nat.le_of_ble_eq_true rfl) cr_X8_primeOf hq ?_
      refine st_i2l (pc := 98) hC dX10_stolen_98 ?_
      obtain ⟨h0, h⟩ := h
      refine st_ldiv (pc := 99) hC dX10_stolen_99 h0 ?_
      refine st_lload_n (pc := 100) hC dX10_stolen_100 rfl ?_
      obtain ⟨h0, h⟩ := h
      refine st_lrem (pc := 101) hC dX10_stolen_101 h0 ?_
      refine st_lload (pc := 102) hC dX10_stolen_102 rfl ?_
      refine st_lcmp_ne (tg := 117) (pc := 104) hC dX10_stolen_104 dX10_stolen_105 (by decide) (ite_im h (fun h => ?_) (fun h => ?_))
      · refine st_iload (pc := 108) hC dX10_stolen_108 rfl ?_
        refine st_iconst (pc := 110) hC dX10_stolen_110 (by decide) ?_
        refine st_iload (pc := 111) hC dX10_stolen_111 rfl ?_
        refine st_ishl (pc := 113) hC dX10_stolen_113 ?_
        refine st_ior (pc := 114) hC dX10_stolen_114 ?_
        refine st_istore (L2 := [rV 19 0, iV x1, lV x2, uV, lV x4, uV, lV x6, uV, iV (iorI x8 (ishlI 1 x9)), iV x9]) (pc := 115) hC dX10_stolen_115 (Nat.le_of_ble_eq_true rfl) rfl ?_
        refine st_iinc (L2 := [rV 19 0, iV x1, lV x2, uV, lV x4, uV, lV x6, uV, iV (iorI x8 (ishlI 1 x9)), iV (w32 (x9 + 1))]) (pc := 117) hC dX10_stolen_117 rfl (Nat.le_of_ble_eq_true rfl) rfl ?_
        refine st_goto (tg := 62) (pc := 120) hC dX10_stolen_120 (by decide) ?_
        exact h
      · refine st_iinc (L2 := [rV 19 0, iV x1, lV x2, uV, lV x4, uV, lV x6, uV, iV x8, iV (w32 (x9 + 1))]) (pc := 117) hC dX10_stolen_117 rfl (Nat.le_of_ble_eq_true rfl) rfl ?_
        refine st_goto (tg := 62) (pc := 120) hC dX10_stolen_120 (by decide) ?_
        exact h
    · refine st_iinc (L2 := [rV 19 0, iV x1, lV x2, uV, lV x4, uV, lV x6, uV, iV x8, iV (w32 (x9 + 1))]) (pc := 117) hC dX10_stolen_117 rfl (Nat.le_of_ble_eq_true rfl) rfl ?_
      refine st_goto (tg := 62) (pc := 120) hC dX10_stolen_120 (by decide) ?_
      exact h
  · refine st_iload (pc := 123) hC dX10_stolen_123 rfl ?_
    exact st_ireturn (pc := 125) hC dX10_stolen_125 trivial h
theorem bX10_fitting_0 {C : Nat → List Vv → Sg → Rs → Sg → Prop} {X : Nat → List Vv → List Vv → Sg → Prop} {Xr : List Vv → Sg → Prop} {Xt : Nat → Sg → Prop} (hC : Clo C 10 cX10_fitting (some .long) X Xr Xt) {x1 x2 x3 : Int} {σ : Sg} (h : (∃ v1 : Nat, C MX10_needTray [rV 19 0, iV x1] σ (.inl [rV 18 v1]) σ ∧ (if x2 < 1 then (Xt 2 σ) else (if (4 : Int) < x2 then (Xt 2 σ) else (∃ v3 : Int, C MX9_tellsRests [rV 18 v1] σ (.inl [iV v3]) σ ∧ (if v3 = 0 then (Xt 2 σ) else (∃ v4 : Int, ∃ σ4 : Sg, C MX0_seek [rV 10 63, rV 17 7, rV 18 v1, iV x2, iV x3] σ (.inl [lV v4]) σ4 ∧ (Xr [lV v4] σ4))))))) ∨ (∃ E2 : Nat, C MX10_needTray [rV 19 0, iV x1] σ (.inr E2) σ ∧ Xt E2 σ)) : X 0 [rV 19 0, iV x1, iV x2, iV x3, uV] [] σ := by
  refine st_aload_n (pc := 0) hC dX10_fitting_0 rfl (by decide) (by decide) ?_
  refine st_iload_n (pc := 1) hC dX10_fitting_1 rfl ?_
  rcases h with ⟨v1, hq, h⟩ | ⟨E2, hq, h⟩
  · refine st_invV (As := [iV x1]) (v := [rV 18 v1]) (S := []) (pc := 2) hC dX10_fitting_2 cl_10_223 rfl rfl (Nat.le_of_ble_eq_true rfl) cr_X10_needTray hq ?_
    refine st_astore (L2 := [rV 19 0, iV x1, iV x2, iV x3, rV 18 v1]) (pc := 5) hC dX10_fitting_5 (by decide) (by decide) (Nat.le_of_ble_eq_true rfl) rfl ?_
    refine st_iload_n (pc := 7) hC dX10_fitting_7 rfl ?_
    refine st_iconst (pc := 8) hC dX10_fitting_8 (by decide) ?_
    refine st_icmp_lt (tg := 25) (pc := 9) hC dX10_fitting_9 (by decide) (ite_im h (fun h => ?_) (fun h => ?_))
    · exact st_throww (pc := 25) (E := 2) (k := 342) hC (by decide) dX10_fitting_25 dX10_fitting_28 rfl dX10_fitting_29 dX10_fitting_32 dX10_fitting_35 h
    · refine st_iload_n (pc := 12) hC dX10_fitting_12 rfl ?_
      refine st_iconst (pc := 13) hC dX10_fitting_13 (by decide) ?_
      refine st_icmp_gt (tg := 25) (pc := 14) hC dX10_fitting_14 (by decide) (ite_im h (fun h => ?_) (fun h => ?_))
      · exact st_throww (pc := 25) (E := 2) (k := 342) hC (by decide) dX10_fitting_25 dX10_fitting_28 rfl dX10_fitting_29 dX10_fitting_32 dX10_fitting_35 h
      · refine st_aload (pc := 17) hC dX10_fitting_17 rfl (by decide) (by decide) ?_
        obtain ⟨v3, hq, h⟩ := h
        refine st_invV (As := []) (v := [iV v3]) (S := []) (pc := 19) hC dX10_fitting_19 cl_10_339 rfl rfl (Nat.le_of_ble_eq_true rfl) cr_X9_tellsRests hq ?_
        refine st_if_ne (tg := 36) (pc := 22) hC dX10_fitting_22 (by decide) (ite_im h (fun h => ?_) (fun h => ?_))
        · exact st_throww (pc := 25) (E := 2) (k := 342) hC (by decide) dX10_fitting_25 dX10_fitting_28 rfl dX10_fitting_29 dX10_fitting_32 dX10_fitting_35 h
        · refine st_aload_n (pc := 36) hC dX10_fitting_36 rfl (by decide) (by decide) ?_
          refine st_getf (ci := 9) (f := 13) (v := rV 10 63) (pc := 37) hC dX10_fitting_37 fl_10_74 rfl rfl ?_
          refine st_aload_n (pc := 40) hC dX10_fitting_40 rfl (by decide) (by decide) ?_
          refine st_getf (ci := 9) (f := 4) (v := rV 17 7) (pc := 41) hC dX10_fitting_41 fl_10_26 rfl rfl ?_
          refine st_aload (pc := 44) hC dX10_fitting_44 rfl (by decide) (by decide) ?_
          refine st_iload_n (pc := 46) hC dX10_fitting_46 rfl ?_
          refine st_iload_n (pc := 47) hC dX10_fitting_47 rfl ?_
          obtain ⟨v4, σ4, hq, h⟩ := h
          refine st_invV (As := [rV 17 7, rV 18 v1, iV x2, iV x3]) (v := [lV v4]) (S := []) (pc := 48) hC dX10_fitting_48 cl_10_344 rfl rfl (Nat.le_of_ble_eq_true rfl) cr_X0_seek hq ?_
          exact st_lreturn (pc := 51) hC dX10_fitting_51 h
  · exact st_invVx (As := [iV x1]) (S := []) (pc := 2) hC dX10_fitting_2 cl_10_223 rfl rfl (Nat.le_of_ble_eq_true rfl) cr_X10_needTray hq h
theorem bX10_trial_0 {C : Nat → List Vv → Sg → Rs → Sg → Prop} {X : Nat → List Vv → List Vv → Sg → Prop} {Xr : List Vv → Sg → Prop} {Xt : Nat → Sg → Prop} (hC : Clo C 10 cX10_trial (some .int) X Xr Xt) {x1 x2 : Int} {σ : Sg} (h : (C MX10_needNumber [rV 19 0, iV x1, iV 1] σ (.inl []) σ ∧ ((C MX10_needWhat [rV 19 0, iV x2, iV 1] σ (.inl []) σ ∧ (∃ v5 : Int, C MX3_leastFactor [iV x1] σ (.inl [iV v5]) σ ∧ (if x2 = 0 then (Xr [iV v5] σ) else (Xr [iV (w32 (v5 - 1))] σ)))) ∨ (∃ E4 : Nat, C MX10_needWhat [rV 19 0, iV x2, iV 1] σ (.inr E4) σ ∧ Xt E4 σ))) ∨ (∃ E2 : Nat, C MX10_needNumber [rV 19 0, iV x1, iV 1] σ (.inr E2) σ ∧ Xt E2 σ)) : X 0 [rV 19 0, iV x1, iV x2, uV] [] σ := by
  refine st_aload_n (pc := 0) hC dX10_trial_0 rfl (by decide) (by decide) ?_
  refine st_iload_n (pc := 1) hC dX10_trial_1 rfl ?_
  refine st_iconst (pc := 2) hC dX10_trial_2 (by decide) ?_
  rcases h with ⟨hq, h⟩ | ⟨E2, hq, h⟩
  · refine st_invV (As := [iV x1, iV 1]) (v := []) (S := []) (pc := 3) hC dX10_trial_3 cl_10_348 rfl rfl (Nat.le_of_ble_eq_true rfl) cr_X10_needNumber hq ?_
    refine st_aload_n (pc := 6) hC dX10_trial_6 rfl (by decide) (by decide) ?_
    refine st_iload_n (pc := 7) hC dX10_trial_7 rfl ?_
    refine st_iconst (pc := 8) hC dX10_trial_8 (by decide) ?_
    rcases h with ⟨hq, h⟩ | ⟨E4, hq, h⟩
    · refine st_invV (As := [iV x2, iV 1]) (v := []) (S := []) (pc := 9) hC dX10_trial_9 cl_10_139 rfl rfl (Nat.le_of_ble_eq_true rfl) cr_X10_needWhat hq ?_
      refine st_iload_n (pc := 12) hC dX10_trial_12 rfl ?_
      obtain ⟨v5, hq, h⟩ := h
      refine st_invS (As := [iV x1]) (v := [iV v5]) (S := []) (pc := 13) hC dX10_trial_13 cl_10_351 rfl rfl (Nat.le_of_ble_eq_true rfl) hq ?_
      refine st_istore_n (L2 := [rV 19 0, iV x1, iV x2, iV v5]) (pc := 16) hC dX10_trial_16 (Nat.le_of_ble_eq_true rfl) rfl ?_
      refine st_iload_n (pc := 17) hC dX10_trial_17 rfl ?_
      refine st_if_ne (tg := 25) (pc := 18) hC dX10_trial_18 (by decide) (ite_im h (fun h => ?_) (fun h => ?_))
      · refine st_iload_n (pc := 21) hC dX10_trial_21 rfl ?_
        refine st_goto (tg := 28) (pc := 22) hC dX10_trial_22 (by decide) ?_
        exact st_ireturn (pc := 28) hC dX10_trial_28 trivial h
      · refine st_iload_n (pc := 25) hC dX10_trial_25 rfl ?_
        refine st_iconst (pc := 26) hC dX10_trial_26 (by decide) ?_
        refine st_isub (pc := 27) hC dX10_trial_27 ?_
        exact st_ireturn (pc := 28) hC dX10_trial_28 trivial h
    · exact st_invVx (As := [iV x2, iV 1]) (S := []) (pc := 9) hC dX10_trial_9 cl_10_139 rfl rfl (Nat.le_of_ble_eq_true rfl) cr_X10_needWhat hq h
  · exact st_invVx (As := [iV x1, iV 1]) (S := []) (pc := 3) hC dX10_trial_3 cl_10_348 rfl rfl (Nat.le_of_ble_eq_true rfl) cr_X10_needNumber hq h
theorem bX10_squares_0 {C : Nat → List Vv → Sg → Rs → Sg → Prop} {X : Nat → List Vv → List Vv → Sg → Prop} {Xr : List Vv → Sg → Prop} {Xt : Nat → Sg → Prop} (hC : Clo C 10 cX10_squares (some .int) X Xr Xt) {x1 x2 : Int} {σ : Sg} (h : if x1 < 3 then (Xt 2 σ) else (if (1000000 : Int) < x1 then (Xt 2 σ) else (if (x1.tmod 2) = 0 then (Xt 2 σ) else ((C MX10_needWhat [rV 19 0, iV x2, iV 1] σ (.inl []) σ ∧ (∃ v3 : Int, C MX3_rootAbove [iV x1] σ (.inl [iV v3]) σ ∧ (if (w32 (v3 * v3)) = x1 then (X 56 [rV 19 0, iV x1, iV x2, iV v3, iV v3, uV] [] σ) else (X 56 [rV 19 0, iV x1, iV x2, iV v3, iV (w32 (v3 - 1)), uV] [] σ)))) ∨ (∃ E2 : Nat, C MX10_needWhat [rV 19 0, iV x2, iV 1] σ (.inr E2) σ ∧ Xt E2 σ))))) : X 0 [rV 19 0, iV x1, iV x2, uV, uV, uV] [] σ := by
  refine st_iload_n (pc := 0) hC dX10_squares_0 rfl ?_
  refine st_iconst (pc := 1) hC dX10_squares_1 (by decide) ?_
  refine st_icmp_lt (tg := 18) (pc := 2) hC dX10_squares_2 (by decide) (ite_im h (fun h => ?_) (fun h => ?_))
  · exact st_throww (pc := 18) (E := 2) (k := 355) hC (by decide) dX10_squares_18 dX10_squares_21 rfl dX10_squares_22 dX10_squares_25 dX10_squares_28 h
  · refine st_iload_n (pc := 5) hC dX10_squares_5 rfl ?_
    refine st_ldcw (pc := 6) hC dX10_squares_6 rfl ?_
    refine st_icmp_gt (tg := 18) (pc := 9) hC dX10_squares_9 (by decide) (ite_im h (fun h => ?_) (fun h => ?_))
    · exact st_throww (pc := 18) (E := 2) (k := 355) hC (by decide) dX10_squares_18 dX10_squares_21 rfl dX10_squares_22 dX10_squares_25 dX10_squares_28 h
    · refine st_iload_n (pc := 12) hC dX10_squares_12 rfl ?_
      refine st_iconst (pc := 13) hC dX10_squares_13 (by decide) ?_
      refine st_irem (pc := 14) hC dX10_squares_14 (by decide) ?_
      refine st_if_ne (tg := 29) (pc := 15) hC dX10_squares_15 (by decide) (ite_im h (fun h => ?_) (fun h => ?_))
      · exact st_throww (pc := 18) (E := 2) (k := 355) hC (by decide) dX10_squares_18 dX10_squares_21 rfl dX10_squares_22 dX10_squares_25 dX10_squares_28 h
      · refine st_aload_n (pc := 29) hC dX10_squares_29 rfl (by decide) (by decide) ?_
        refine st_iload_n (pc := 30) hC dX10_squares_30 rfl ?_
        refine st_iconst (pc := 31) hC dX10_squares_31 (by decide) ?_
        rcases h with ⟨hq, h⟩ | ⟨E2, hq, h⟩
        · refine st_invV (As := [iV x2, iV 1]) (v := []) (S := []) (pc := 32) hC dX10_squares_32 cl_10_139 rfl rfl (Nat.le_of_ble_eq_true rfl) cr_X10_needWhat hq ?_
          refine st_iload_n (pc := 35) hC dX10_squares_35 rfl ?_
          obtain ⟨v3, hq, h⟩ := h
          refine st_invS (As := [iV x1]) (v := [iV v3]) (S := []) (pc := 36) hC dX10_squares_36 cl_10_357 rfl rfl (Nat.le_of_ble_eq_true rfl) hq ?_
          refine st_istore_n (L2 := [rV 19 0, iV x1, iV x2, iV v3, uV, uV]) (pc := 39) hC dX10_squares_39 (Nat.le_of_ble_eq_true rfl) rfl ?_
          refine st_iload_n (pc := 40) hC dX10_squares_40 rfl ?_
          refine st_iload_n (pc := 41) hC dX10_squares_41 rfl ?_
          refine st_imul (pc := 42) hC dX10_squares_42 ?_
          refine st_iload_n (pc := 43) hC dX10_squares_43 rfl ?_
          refine st_icmp_ne (tg := 51) (pc := 44) hC dX10_squares_44 (by decide) (ite_im h (fun h => ?_) (fun h => ?_))
          · refine st_iload_n (pc := 47) hC dX10_squares_47 rfl ?_
            refine st_goto (tg := 54) (pc := 48) hC dX10_squares_48 (by decide) ?_
            refine st_istore (L2 := [rV 19 0, iV x1, iV x2, iV v3, iV v3, uV]) (pc := 54) hC dX10_squares_54 (Nat.le_of_ble_eq_true rfl) rfl ?_
            exact h
          · refine st_iload_n (pc := 51) hC dX10_squares_51 rfl ?_
            refine st_iconst (pc := 52) hC dX10_squares_52 (by decide) ?_
            refine st_isub (pc := 53) hC dX10_squares_53 ?_
            refine st_istore (L2 := [rV 19 0, iV x1, iV x2, iV v3, iV (w32 (v3 - 1)), uV]) (pc := 54) hC dX10_squares_54 (Nat.le_of_ble_eq_true rfl) rfl ?_
            exact h
        · exact st_invVx (As := [iV x2, iV 1]) (S := []) (pc := 32) hC dX10_squares_32 cl_10_139 rfl rfl (Nat.le_of_ble_eq_true rfl) cr_X10_needWhat hq h
theorem bX10_squares_56 {C : Nat → List Vv → Sg → Rs → Sg → Prop} {X : Nat → List Vv → List Vv → Sg → Prop} {Xr : List Vv → Sg → Prop} {Xt : Nat → Sg → Prop} (hC : Clo C 10 cX10_squares (some .int) X Xr Xt) {x1 x2 x3 x4 : Int} {σ : Sg} (h : if (1 : Int) < x4 then (x4 ≠ 0 ∧ (if (x1.tmod x4) = 0 then (x4 ≠ 0 ∧ (if x2 = 0 then (Xr [iV x4] σ) else (Xr [iV (w32 ((w32 ((w32 ((w32 (x4 + (w32 (x1.tdiv x4)))).tdiv 2)) - x3)) + 1))] σ))) else (X 56 [rV 19 0, iV x1, iV x2, iV x3, iV (w32 (x4 + (-1))), uV] [] σ))) else (x4 ≠ 0 ∧ (if x2 = 0 then (Xr [iV x4] σ) else (Xr [iV (w32 ((w32 ((w32 ((w32 (x4 + (w32 (x1.tdiv x4)))).tdiv 2)) - x3)) + 1))] σ)))) : X 56 [rV 19 0, iV x1, iV x2, iV x3, iV x4, uV] [] σ := by
  refine st_iload (pc := 56) hC dX10_squares_56 rfl ?_
  refine st_iconst (pc := 58) hC dX10_squares_58 (by decide) ?_
  refine st_icmp_le (tg := 75) (pc := 59) hC dX10_squares_59 (by decide) (ite_im h (fun h => ?_) (fun h => ?_))
  · refine st_iload_n (pc := 62) hC dX10_squares_62 rfl ?_
    refine st_iload (pc := 63) hC dX10_squares_63 rfl ?_
    obtain ⟨h0, h⟩ := h
    refine st_irem (pc := 65) hC dX10_squares_65 h0 ?_
    refine st_if_eq (tg := 75) (pc := 66) hC dX10_squares_66 (by decide) (ite_im h (fun h => ?_) (fun h => ?_))
    · refine st_iload (pc := 75) hC dX10_squares_75 rfl ?_
      refine st_iload_n (pc := 77) hC dX10_squares_77 rfl ?_
      refine st_iload (pc := 78) hC dX10_squares_78 rfl ?_
      obtain ⟨h0, h⟩ := h
      refine st_idiv (pc := 80) hC dX10_squares_80 h0 ?_
      refine st_iadd (pc := 81) hC dX10_squares_81 ?_
      refine st_iconst (pc := 82) hC dX10_squares_82 (by decide) ?_
      refine st_idiv (pc := 83) hC dX10_squares_83 (by decide) ?_
      refine st_istore (L2 := [rV 19 0, iV x1, iV x2, iV x3, iV x4, iV (w32 ((w32 (x4 + (w32 (x1.tdiv x4)))).tdiv 2))]) (pc := 84) hC dX10_squares_84 (Nat.le_of_ble_eq_true rfl) rfl ?_
      refine st_iload_n (pc := 86) hC dX10_squares_86 rfl ?_
      refine st_if_ne (tg := 95) (pc := 87) hC dX10_squares_87 (by decide) (ite_im h (fun h => ?_) (fun h => ?_))
      · refine st_iload (pc := 90) hC dX10_squares_90 rfl ?_
        refine st_goto (tg := 101) (pc := 92) hC dX10_squares_92 (by decide) ?_
        exact st_ireturn (pc := 101) hC dX10_squares_101 trivial h
      · refine st_iload (pc := 95) hC dX10_squares_95 rfl ?_
        refine st_iload_n (pc := 97) hC dX10_squares_97 rfl ?_
        refine st_isub (pc := 98) hC dX10_squares_98 ?_
        refine st_iconst (pc := 99) hC dX10_squares_99 (by decide) ?_
        refine st_iadd (pc := 100) hC dX10_squares_100 ?_
        exact st_ireturn (pc := 101) hC dX10_squares_101 trivial h
    · refine st_iinc (L2 := [rV 19 0, iV x1, iV x2, iV x3, iV (w32 (x4 + (-1))), uV]) (pc := 69) hC dX10_squares_69 rfl (Nat.le_of_ble_eq_true rfl) rfl ?_
      refine st_goto (tg := 56) (pc := 72) hC dX10_squares_72 (by decide) ?_
      exact h
  · refine st_iload (pc := 75) hC dX10_squares_75 rfl ?_
    refine st_iload_n (pc := 77) hC dX10_squares_77 rfl ?_
    refine st_iload (pc := 78) hC dX10_squares_78 rfl ?_
    obtain ⟨h0, h⟩ := h
    refine st_idiv (pc := 80) hC dX10_squares_80 h0 ?_
    refine st_iadd (pc := 81) hC dX10_squares_81 ?_
    refine st_iconst (pc := 82) hC dX10_squares_82 (by decide) ?_
    refine st_idiv (pc := 83) hC dX10_squares_83 (by decide) ?_
    refine st_istore (L2 := [rV 19 0, iV x1, iV x2, iV x3, iV x4, iV (w32 ((w32 (x4 + (w32 (x1.tdiv x4)))).tdiv 2))]) (pc := 84) hC dX10_squares_84 (Nat.le_of_ble_eq_true rfl) rfl ?_
    refine st_iload_n (pc := 86) hC dX10_squares_86 rfl ?_
    refine st_if_ne (tg := 95) (pc := 87) hC dX10_squares_87 (by decide) (ite_im h (fun h => ?_) (fun h => ?_))
    · refine st_iload (pc := 90) hC dX10_squares_90 rfl ?_
      refine st_goto (tg := 101) (pc := 92) hC dX10_squares_92 (by decide) ?_
      exact st_ireturn (pc := 101) hC dX10_squares_101 trivial h
    · refine st_iload (pc := 95) hC dX10_squares_95 rfl ?_
      refine st_iload_n (pc := 97) hC dX10_squares_97 rfl ?_
      refine st_isub (pc := 98) hC dX10_squares_98 ?_
      refine st_iconst (pc := 99) hC dX10_squares_99 (by decide) ?_
      refine st_iadd (pc := 100) hC dX10_squares_100 ?_
      exact st_ireturn (pc := 101) hC dX10_squares_101 trivial h
theorem bX10_rounds_0 {C : Nat → List Vv → Sg → Rs → Sg → Prop} {X : Nat → List Vv → List Vv → Sg → Prop} {Xr : List Vv → Sg → Prop} {Xt : Nat → Sg → Prop} (hC : Clo C 10 cX10_rounds (some .int) X Xr Xt) {x1 x2 x3 : Int} {σ : Sg} (h : (C MX10_needNumber [rV 19 0, iV x1, iV 2] σ (.inl []) σ ∧ (if x2 < 0 then (Xt 2 σ) else (if (99 : Int) < x2 then (Xt 2 σ) else ((C MX10_needWhat [rV 19 0, iV x3, iV 1] σ (.inl []) σ ∧ (X 46 [rV 19 0, iV x1, iV x2, iV x3, lV 2, uV, lV 2, uV, iV 1, uV, uV] [] σ)) ∨ (∃ E4 : Nat, C MX10_needWhat [rV 19 0, iV x3, iV 1] σ (.inr E4) σ ∧ Xt E4 σ))))) ∨ (∃ E2 : Nat, C MX10_needNumber [rV 19 0, iV x1, iV 2] σ (.inr E2) σ ∧ Xt E2 σ)) : X 0 [rV 19 0, iV x1, iV x2, iV x3, uV, uV, uV, uV, uV, uV, uV] [] σ := by
  refine st_aload_n (pc := 0) hC dX10_rounds_0 rfl (by decide) (by decide) ?_
  refine st_iload_n (pc := 1) hC dX10_rounds_1 rfl ?_
  refine st_iconst (pc := 2) hC dX10_rounds_2 (by decide) ?_
  rcases h with ⟨hq, h⟩ | ⟨E2, hq, h⟩
  · refine st_invV (As := [iV x1, iV 2]) (v := []) (S := []) (pc := 3) hC dX10_rounds_3 cl_10_348 rfl rfl (Nat.le_of_ble_eq_true rfl) cr_X10_needNumber hq ?_
    refine st_iload_n (pc := 6) hC dX10_rounds_6 rfl ?_
    refine st_if_lt (tg := 16) (pc := 7) hC dX10_rounds_7 (by decide) (ite_im h (fun h => ?_) (fun h => ?_))
    · exact st_throww (pc := 16) (E := 2) (k := 360) hC (by decide) dX10_rounds_16 dX10_rounds_19 rfl dX10_rounds_20 dX10_rounds_23 dX10_rounds_26 h
    · refine st_iload_n (pc := 10) hC dX10_rounds_10 rfl ?_
      refine st_bipush (pc := 11) hC dX10_rounds_11 (by decide) ?_
      refine st_icmp_le (tg := 27) (pc := 13) hC dX10_rounds_13 (by decide) (ite_im h (fun h => ?_) (fun h => ?_))
      · exact st_throww (pc := 16) (E := 2) (k := 360) hC (by decide) dX10_rounds_16 dX10_rounds_19 rfl dX10_rounds_20 dX10_rounds_23 dX10_rounds_26 h
      · refine st_aload_n (pc := 27) hC dX10_rounds_27 rfl (by decide) (by decide) ?_
        refine st_iload_n (pc := 28) hC dX10_rounds_28 rfl ?_
        refine st_iconst (pc := 29) hC dX10_rounds_29 (by decide) ?_
        rcases h with ⟨hq, h⟩ | ⟨E4, hq, h⟩
        · refine st_invV (As := [iV x3, iV 1]) (v := []) (S := []) (pc := 30) hC dX10_rounds_30 cl_10_139 rfl rfl (Nat.le_of_ble_eq_true rfl) cr_X10_needWhat hq ?_
          refine st_ldc2 (pc := 33) hC dX10_rounds_33 rfl ?_
          refine st_lstore (L2 := [rV 19 0, iV x1, iV x2, iV x3, lV 2, uV, uV, uV, uV, uV, uV]) (pc := 36) hC dX10_rounds_36 (Nat.le_of_ble_eq_true rfl) rfl ?_
          refine st_ldc2 (pc := 38) hC dX10_rounds_38 rfl ?_
          refine st_lstore (L2 := [rV 19 0, iV x1, iV x2, iV x3, lV 2, uV, lV 2, uV, uV, uV, uV]) (pc := 41) hC dX10_rounds_41 (Nat.le_of_ble_eq_true rfl) rfl ?_
          refine st_iconst (pc := 43) hC dX10_rounds_43 (by decide) ?_
          refine st_istore (L2 := [rV 19 0, iV x1, iV x2, iV x3, lV 2, uV, lV 2, uV, iV 1, uV, uV]) (pc := 44) hC dX10_rounds_44 (Nat.le_of_ble_eq_true rfl) rfl ?_
          exact h
        · exact st_invVx (As := [iV x3, iV 1]) (S := []) (pc := 30) hC dX10_rounds_30 cl_10_139 rfl rfl (Nat.le_of_ble_eq_true rfl) cr_X10_needWhat hq h
  · exact st_invVx (As := [iV x1, iV 2]) (S := []) (pc := 3) hC dX10_rounds_3 cl_10_348 rfl rfl (Nat.le_of_ble_eq_true rfl) cr_X10_needNumber hq h
theorem bX10_rounds_46 {C : Nat → List Vv → Sg → Rs → Sg → Prop} {X : Nat → List Vv → List Vv → Sg → Prop} {Xr : List Vv → Sg → Prop} {Xt : Nat → Sg → Prop} (hC : Clo C 10 cX10_rounds (some .int) X Xr Xt) {x1 x2 x3 x4 x6 x8 : Int} {σ : Sg} (h : if (2000 : Int) < x8 then (Xr [iV (-1)] σ) else (x1 ≠ 0 ∧ (x1 ≠ 0 ∧ (x1 ≠ 0 ∧ (∃ v1 : Int, C MX3_commonFactor [lV x1, lV (absI (w64 (((w64 ((w64 (x4 * x4)) + x2)).tmod x1) - ((w64 ((w64 (((w64 ((w64 (x6 * x6)) + x2)).tmod x1) * ((w64 ((w64 (x6 * x6)) + x2)).tmod x1))) + x2)).tmod x1))))] σ (.inl [lV v1]) σ ∧ (if (1 : Int) < v1 then (if x3 = 0 then (Xr [iV (w32 v1)] σ) else (Xr [iV x8] σ)) else (X 46 [rV 19 0, iV x1, iV x2, iV x3, lV ((w64 ((w64 (x4 * x4)) + x2)).tmod x1), uV, lV ((w64 ((w64 (((w64 ((w64 (x6 * x6)) + x2)).tmod x1) * ((w64 ((w64 (x6 * x6)) + x2)).tmod x1))) + x2)).tmod x1), uV, iV (w32 (x8 + 1)), uV, uV] [] σ))))))) : X 46 [rV 19 0, iV x1, iV x2, iV x3, lV x4, uV, lV x6, uV, iV x8, uV, uV] [] σ := by
  refine st_iload (pc := 46) hC dX10_rounds_46 rfl ?_
  refine st_sipush (pc := 48) hC dX10_rounds_48 (by decide) ?_
  refine st_icmp_gt (tg := 134) (pc := 51) hC dX10_rounds_51 (by decide) (ite_im h (fun h => ?_) (fun h => ?_))
  · refine st_iconst (pc := 134) hC dX10_rounds_134 (by decide) ?_
    exact st_ireturn (pc := 135) hC dX10_rounds_135 trivial h
  · refine st_lload (pc := 54) hC dX10_rounds_54 rfl ?_
    refine st_lload (pc := 56) hC dX10_rounds_56 rfl ?_
    refine st_lmul (pc := 58) hC dX10_rounds_58 ?_
    refine st_iload_n (pc := 59) hC dX10_rounds_59 rfl ?_
    refine st_i2l (pc := 60) hC dX10_rounds_60 ?_
    refine st_ladd (pc := 61) hC dX10_rounds_61 ?_
    refine st_iload_n (pc := 62) hC dX10_rounds_62 rfl ?_
    refine st_i2l (pc := 63) hC dX10_rounds_63 ?_
    obtain ⟨h0, h⟩ := h
    refine st_lrem (pc := 64) hC dX10_rounds_64 h0 ?_
    refine st_lstore (L2 := [rV 19 0, iV x1, iV x2, iV x3, lV ((w64 ((w64 (x4 * x4)) + x2)).tmod x1), uV, lV x6, uV, iV x8, uV, uV]) (pc := 65) hC dX10_rounds_65 (Nat.le_of_ble_eq_true rfl) rfl ?_
    refine st_lload (pc := 67) hC dX10_rounds_67 rfl ?_
    refine st_lload (pc := 69) hC dX10_rounds_69 rfl ?_
    refine st_lmul (pc := 71) hC dX10_rounds_71 ?_
    refine st_iload_n (pc := 72) hC dX10_rounds_72 rfl ?_
    refine st_i2l (pc := 73) hC dX10_rounds_73 ?_
    refine st_ladd (pc := 74) hC dX10_rounds_74 ?_
    refine st_iload_n (pc := 75) hC dX10_rounds_75 rfl ?_
    refine st_i2l (pc := 76) hC dX10_rounds_76 ?_
    obtain ⟨h0, h⟩ := h
    refine st_lrem (pc := 77) hC dX10_rounds_77 h0 ?_
    refine st_lstore (L2 := [rV 19 0, iV x1, iV x2, iV x3, lV ((w64 ((w64 (x4 * x4)) + x2)).tmod x1), uV, lV ((w64 ((w64 (x6 * x6)) + x2)).tmod x1), uV, iV x8, uV, uV]) (pc := 78) hC dX10_rounds_78 (Nat.le_of_ble_eq_true rfl) rfl ?_
    refine st_lload (pc := 80) hC dX10_rounds_80 rfl ?_
    refine st_lload (pc := 82) hC dX10_rounds_82 rfl ?_
    refine st_lmul (pc := 84) hC dX10_rounds_84 ?_
    refine st_iload_n (pc := 85) hC dX10_rounds_85 rfl ?_
    refine st_i2l (pc := 86) hC dX10_rounds_86 ?_
    refine st_ladd (pc := 87) hC dX10_rounds_87 ?_
    refine st_iload_n (pc := 88) hC dX10_rounds_88 rfl ?_
    refine st_i2l (pc := 89) hC dX10_rounds_89 ?_
    obtain ⟨h0, h⟩ := h
    refine st_lrem (pc := 90) hC dX10_rounds_90 h0 ?_
    refine st_lstore (L2 := [rV 19 0, iV x1, iV x2, iV x3, lV ((w64 ((w64 (x4 * x4)) + x2)).tmod x1), uV, lV ((w64 ((w64 (((w64 ((w64 (x6 * x6)) + x2)).tmod x1) * ((w64 ((w64 (x6 * x6)) + x2)).tmod x1))) + x2)).tmod x1), uV, iV x8, uV, uV]) (pc := 91) hC dX10_rounds_91 (Nat.le_of_ble_eq_true rfl) rfl ?_
    refine st_iload_n (pc := 93) hC dX10_rounds_93 rfl ?_
    refine st_i2l (pc := 94) hC dX10_rounds_94 ?_
    refine st_lload (pc := 95) hC dX10_rounds_95 rfl ?_
    refine st_lload (pc := 97) hC dX10_rounds_97 rfl ?_
    refine st_lsub (pc := 99) hC dX10_rounds_99 ?_
    refine st_labs (pc := 100) hC dX10_rounds_100 rfl (Nat.le_of_ble_eq_true rfl) ?_
    obtain ⟨v1, hq, h⟩ := h
    refine st_invS (As := [lV x1, lV (absI (w64 (((w64 ((w64 (x4 * x4)) + x2)).tmod x1) - ((w64 ((w64 (((w64 ((w64 (x6 * x6)) + x2)).tmod x1) * ((w64 ((w64 (x6 * x6)) + x2)).tmod x1))) + x2)).tmod x1))))]) (v := [lV v1]) (S := []) (pc := 103) hC dX10_rounds_103 cl_10_326 rfl rfl (Nat.le_of_ble_eq_true rfl) hq ?_
    refine st_lstore (L2 := [rV 19 0, iV x1, iV x2, iV x3, lV ((w64 ((w64 (x4 * x4)) + x2)).tmod x1), uV, lV ((w64 ((w64 (((w64 ((w64 (x6 * x6)) + x2)).tmod x1) * ((w64 ((w64 (x6 * x6)) + x2)).tmod x1))) + x2)).tmod x1), uV, iV x8, lV v1, uV]) (pc := 106) hC dX10_rounds_106 (Nat.le_of_ble_eq_true rfl) rfl ?_
    refine st_lload (pc := 108) hC dX10_rounds_108 rfl ?_
    refine st_lconst1 (pc := 110) hC dX10_rounds_110 ?_
    refine st_lcmp_le (tg := 128) (pc := 111) hC dX10_rounds_111 dX10_rounds_112 (by decide) (ite_im h (fun h => ?_) (fun h => ?_))
    · refine st_iload_n (pc := 115) hC dX10_rounds_115 rfl ?_
      refine st_if_ne (tg := 125) (pc := 116) hC dX10_rounds_116 (by decide) (ite_im h (fun h => ?_) (fun h => ?_))
      · refine st_lload (pc := 119) hC dX10_rounds_119 rfl ?_
        refine st_l2i (pc := 121) hC dX10_rounds_121 ?_
        refine st_goto (tg := 127) (pc := 122) hC dX10_rounds_122 (by decide) ?_
        exact st_ireturn (pc := 127) hC dX10_rounds_127 trivial h
      · refine st_iload (pc := 125) hC dX10_rounds_125 rfl ?_
        exact st_ireturn (pc := 127) hC dX10_rounds_127 trivial h
    · refine st_iinc (L2 := [rV 19 0, iV x1, iV x2, iV x3, lV ((w64 ((w64 (x4 * x4)) + x2)).tmod x1), uV, lV ((w64 ((w64 (((w64 ((w64 (x6 * x6)) + x2)).tmod x1) * ((w64 ((w64 (x6 * x6)) + x2)).tmod x1))) + x2)).tmod x1), uV, iV (w32 (x8 + 1)), lV v1, uV]) (pc := 128) hC dX10_rounds_128 rfl (Nat.le_of_ble_eq_true rfl) rfl ?_
      refine st_goto (tg := 46) (pc := 131) hC dX10_rounds_131 (by decide) ?_
      exact st_fg (L2 := [rV 19 0, iV x1, iV x2, iV x3, lV ((w64 ((w64 (x4 * x4)) + x2)).tmod x1), uV, lV ((w64 ((w64 (((w64 ((w64 (x6 * x6)) + x2)).tmod x1) * ((w64 ((w64 (x6 * x6)) + x2)).tmod x1))) + x2)).tmod x1), uV, iV (w32 (x8 + 1)), uV, uV]) hC ⟨Or.inl rfl, Or.inl rfl, Or.inl rfl, Or.inl rfl, Or.inl rfl, Or.inl rfl, Or.inl rfl, Or.inl rfl, Or.inl rfl, Or.inr rfl, Or.inl rfl, trivial⟩ h
theorem bX10_factor_0 {C : Nat → List Vv → Sg → Rs → Sg → Prop} {X : Nat → List Vv → List Vv → Sg → Prop} {Xr : List Vv → Sg → Prop} {Xt : Nat → Sg → Prop} (hC : Clo C 10 cX10_factor (some .int) X Xr Xt) {x1 x2 : Int} {σ : Sg} (h : (C MX10_needNumber [rV 19 0, iV x1, iV 1] σ (.inl []) σ ∧ (X 14 [rV 19 0, iV x1, iV x2, iV x1, iV 0, iV 2, uV] [] σ)) ∨ (∃ E2 : Nat, C MX10_needNumber [rV 19 0, iV x1, iV 1] σ (.inr E2) σ ∧ Xt E2 σ)) : X 0 [rV 19 0, iV x1, iV x2, uV, uV, uV, uV] [] σ := by
  refine st_aload_n (pc := 0) hC dX10_factor_0 rfl (by decide) (by decide) ?_
  refine st_iload_n (pc := 1) hC dX10_factor_1 rfl ?_
  refine st_iconst (pc := 2) hC dX10_factor_2 (by decide) ?_
  rcases h with ⟨hq, h⟩ | ⟨E2, hq, h⟩
  · refine st_invV (As := [iV x1, iV 1]) (v := []) (S := []) (pc := 3) hC dX10_factor_3 cl_10_348 rfl rfl (Nat.le_of_ble_eq_true rfl) cr_X10_needNumber hq ?_
    refine st_iload_n (pc := 6) hC dX10_factor_6 rfl ?_
    refine st_istore_n (L2 := [rV 19 0, iV x1, iV x2, iV x1, uV, uV, uV]) (pc := 7) hC dX10_factor_7 (Nat.le_of_ble_eq_true rfl) rfl ?_
    refine st_iconst (pc := 8) hC dX10_factor_8 (by decide) ?_
    refine st_istore (L2 := [rV 19 0, iV x1, iV x2, iV x1, iV 0, uV, uV]) (pc := 9) hC dX10_factor_9 (Nat.le_of_ble_eq_true rfl) rfl ?_
    refine st_iconst (pc := 11) hC dX10_factor_11 (by decide) ?_
    refine st_istore (L2 := [rV 19 0, iV x1, iV x2, iV x1, iV 0, iV 2, uV]) (pc := 12) hC dX10_factor_12 (Nat.le_of_ble_eq_true rfl) rfl ?_
    exact h
  · exact st_invVx (As := [iV x1, iV 1]) (S := []) (pc := 3) hC dX10_factor_3 cl_10_348 rfl rfl (Nat.le_of_ble_eq_true rfl) cr_X10_needNumber hq h
theorem bX10_factor_14 {C : Nat → List Vv → Sg → Rs → Sg → Prop} {X : Nat → List Vv → List Vv → Sg → Prop} {Xr : List Vv → Sg → Prop} {Xt : Nat → Sg → Prop} (hC : Clo C 10 cX10_factor (some .int) X Xr Xt) {x1 x2 x3 x4 x5 : Int} {σ : Sg} (h : if (31622 : Int) < x5 then (if (1 : Int) < x3 then (if x4 = x2 then (Xr [iV x3] σ) else (if x2 = (-1) then (Xr [iV (w32 (x4 + 1))] σ) else (Xr [iV (-1)] σ))) else (if x2 = (-1) then (Xr [iV x4] σ) else (Xr [iV (-1)] σ))) else (if x3 < (w32 (x5 * x5)) then (if (1 : Int) < x3 then (if x4 = x2 then (Xr [iV x3] σ) else (if x2 = (-1) then (Xr [iV (w32 (x4 + 1))] σ) else (Xr [iV (-1)] σ))) else (if x2 = (-1) then (Xr [iV x4] σ) else (Xr [iV (-1)] σ))) else (X 34 [rV 19 0, iV x1, iV x2, iV x3, iV x4, iV x5, iV 0] [] σ))) : X 14 [rV 19 0, iV x1, iV x2, iV x3, iV x4, iV x5, uV] [] σ := by
  refine st_iload (pc := 14) hC dX10_factor_14 rfl ?_
  refine st_sipush (pc := 16) hC dX10_factor_16 (by decide) ?_
  refine st_icmp_gt (tg := 77) (pc := 19) hC dX10_factor_19 (by decide) (ite_im h (fun h => ?_) (fun h => ?_))
  · refine st_iload_n (pc := 77) hC dX10_factor_77 rfl ?_
    refine st_iconst (pc := 78) hC dX10_factor_78 (by decide) ?_
    refine st_icmp_le (tg := 93) (pc := 79) hC dX10_factor_79 (by decide) (ite_im h (fun h => ?_) (fun h => ?_))
    · refine st_iload (pc := 82) hC dX10_factor_82 rfl ?_
      refine st_iload_n (pc := 84) hC dX10_factor_84 rfl ?_
      refine st_icmp_ne (tg := 90) (pc := 85) hC dX10_factor_85 (by decide) (ite_im h (fun h => ?_) (fun h => ?_))
      · refine st_iload_n (pc := 88) hC dX10_factor_88 rfl ?_
        exact st_ireturn (pc := 89) hC dX10_factor_89 trivial h
      · refine st_iinc (L2 := [rV 19 0, iV x1, iV x2, iV x3, iV (w32 (x4 + 1)), iV x5, uV]) (pc := 90) hC dX10_factor_90 rfl (Nat.le_of_ble_eq_true rfl) rfl ?_
        refine st_iload_n (pc := 93) hC dX10_factor_93 rfl ?_
        refine st_iconst (pc := 94) hC dX10_factor_94 (by decide) ?_
        refine st_icmp_ne (tg := 103) (pc := 95) hC dX10_factor_95 (by decide) (ite_im h (fun h => ?_) (fun h => ?_))
        · refine st_iload (pc := 98) hC dX10_factor_98 rfl ?_
          refine st_goto (tg := 104) (pc := 100) hC dX10_factor_100 (by decide) ?_
          exact st_ireturn (pc := 104) hC dX10_factor_104 trivial h
        · refine st_iconst (pc := 103) hC dX10_factor_103 (by decide) ?_
          exact st_ireturn (pc := 104) hC dX10_factor_104 trivial h
    · refine st_iload_n (pc := 93) hC dX10_factor_93 rfl ?_
      refine st_iconst (pc := 94) hC dX10_factor_94 (by decide) ?_
      refine st_icmp_ne (tg := 103) (pc := 95) hC dX10_factor_95 (by decide) (ite_im h (fun h => ?_) (fun h => ?_))
      · refine st_iload (pc := 98) hC dX10_factor_98 rfl ?_
        refine st_goto (tg := 104) (pc := 100) hC dX10_factor_100 (by decide) ?_
        exact st_ireturn (pc := 104) hC dX10_factor_104 trivial h
      · refine st_iconst (pc := 103) hC dX10_factor_103 (by decide) ?_
        exact st_ireturn (pc := 104) hC dX10_factor_104 trivial h
  · refine st_iload (pc := 22) hC dX10_factor_22 rfl ?_
    refine st_iload (pc := 24) hC dX10_factor_24 rfl ?_
    refine st_imul (pc := 26) hC dX10_factor_26 ?_
    refine st_iload_n (pc := 27) hC dX10_factor_27 rfl ?_
    refine st_icmp_gt (tg := 77) (pc := 28) hC dX10_factor_28 (by decide) (ite_im h (fun h => ?_) (fun h => ?_))
    · refine st_iload_n (pc := 77) hC dX10_factor_77 rfl ?_
      refine st_iconst (pc := 78) hC dX10_factor_78 (by decide) ?_
      refine st_icmp_le (tg := 93) (pc := 79) hC dX10_factor_79 (by decide) (ite_im h (fun h => ?_) (fun h => ?_))
      · refine st_iload (pc := 82) hC dX10_factor_82 rfl ?_
        refine st_iload_n (pc := 84) hC dX10_factor_84 rfl ?_
        refine st_icmp_ne (tg := 90) (pc := 85) hC dX10_factor_85 (by decide) (ite_im h (fun h => ?_) (fun h => ?_))
        · refine st_iload_n (pc := 88) hC dX10_factor_88 rfl ?_
          exact st_ireturn (pc := 89) hC dX10_factor_89 trivial h
        · refine st_iinc (L2 := [rV 19 0, iV x1, iV x2, iV x3, iV (w32 (x4 + 1)), iV x5, uV]) (pc := 90) hC dX10_factor_90 rfl (Nat.le_of_ble_eq_true rfl) rfl ?_
          refine st_iload_n (pc := 93) hC dX10_factor_93 rfl ?_
          refine st_iconst (pc := 94) hC dX10_factor_94 (by decide) ?_
          refine st_icmp_ne (tg := 103) (pc := 95) hC dX10_factor_95 (by decide) (ite_im h (fun h => ?_) (fun h => ?_))
          · refine st_iload (pc := 98) hC dX10_factor_98 rfl ?_
            refine st_goto (tg := 104) (pc := 100) hC dX10_factor_100 (by decide) ?_
            exact st_ireturn (pc := 104) hC dX10_factor_104 trivial h
          · refine st_iconst (pc := 103) hC dX10_factor_103 (by decide) ?_
            exact st_ireturn (pc := 104) hC dX10_factor_104 trivial h
      · refine st_iload_n (pc := 93) hC dX10_factor_93 rfl ?_
        refine st_iconst (pc := 94) hC dX10_factor_94 (by decide) ?_
        refine st_icmp_ne (tg := 103) (pc := 95) hC dX10_factor_95 (by decide) (ite_im h (fun h => ?_) (fun h => ?_))
        · refine st_iload (pc := 98) hC dX10_factor_98 rfl ?_
          refine st_goto (tg := 104) (pc := 100) hC dX10_factor_100 (by decide) ?_
          exact st_ireturn (pc := 104) hC dX10_factor_104 trivial h
        · refine st_iconst (pc := 103) hC dX10_factor_103 (by decide) ?_
          exact st_ireturn (pc := 104) hC dX10_factor_104 trivial h
    · refine st_iconst (pc := 31) hC dX10_factor_31 (by decide) ?_
      refine st_istore (L2 := [rV 19 0, iV x1, iV x2, iV x3, iV x4, iV x5, iV 0]) (pc := 32) hC dX10_factor_32 (Nat.le_of_ble_eq_true rfl) rfl ?_
      exact h
theorem bX10_factor_34 {C : Nat → List Vv → Sg → Rs → Sg → Prop} {X : Nat → List Vv → List Vv → Sg → Prop} {Xr : List Vv → Sg → Prop} {Xt : Nat → Sg → Prop} (hC : Clo C 10 cX10_factor (some .int) X Xr Xt) {x1 x2 x3 x4 x5 x6 : Int} {σ : Sg} (h : if x6 < 32 then (x5 ≠ 0 ∧ (if (x3.tmod x5) = 0 then (if x4 = x2 then (Xr [iV x5] σ) else (x5 ≠ 0 ∧ (X 34 [rV 19 0, iV x1, iV x2, iV (w32 (x3.tdiv x5)), iV (w32 (x4 + 1)), iV x5, iV (w32 (x6 + 1))] [] σ))) else (X 14 [rV 19 0, iV x1, iV x2, iV x3, iV x4, iV (w32 (x5 + 1)), uV] [] σ))) else (X 14 [rV 19 0, iV x1, iV x2, iV x3, iV x4, iV (w32 (x5 + 1)), uV] [] σ)) : X 34 [rV 19 0, iV x1, iV x2, iV x3, iV x4, iV x5, iV x6] [] σ := by
  refine st_iload (pc := 34) hC dX10_factor_34 rfl ?_
  refine st_bipush (pc := 36) hC dX10_factor_36 (by decide) ?_
  refine st_icmp_ge (tg := 71) (pc := 38) hC dX10_factor_38 (by decide) (ite_im h (fun h => ?_) (fun h => ?_))
  · refine st_iload_n (pc := 41) hC dX10_factor_41 rfl ?_
    refine st_iload (pc := 42) hC dX10_factor_42 rfl ?_
    obtain ⟨h0, h⟩ := h
    refine st_irem (pc := 44) hC dX10_factor_44 h0 ?_
    refine st_if_ne (tg := 71) (pc := 45) hC dX10_factor_45 (by decide) (ite_im h (fun h => ?_) (fun h => ?_))
    · refine st_iload (pc := 48) hC dX10_factor_48 rfl ?_
      refine st_iload_n (pc := 50) hC dX10_factor_50 rfl ?_
      refine st_icmp_ne (tg := 57) (pc := 51) hC dX10_factor_51 (by decide) (ite_im h (fun h => ?_) (fun h => ?_))
      · refine st_iload (pc := 54) hC dX10_factor_54 rfl ?_
        exact st_ireturn (pc := 56) hC dX10_factor_56 trivial h
      · refine st_iinc (L2 := [rV 19 0, iV x1, iV x2, iV x3, iV (w32 (x4 + 1)), iV x5, iV x6]) (pc := 57) hC dX10_factor_57 rfl (Nat.le_of_ble_eq_true rfl) rfl ?_
        refine st_iload_n (pc := 60) hC dX10_factor_60 rfl ?_
        refine st_iload (pc := 61) hC dX10_factor_61 rfl ?_
        obtain ⟨h0, h⟩ := h
        refine st_idiv (pc := 63) hC dX10_factor_63 h0 ?_
        refine st_istore_n (L2 := [rV 19 0, iV x1, iV x2, iV (w32 (x3.tdiv x5)), iV (w32 (x4 + 1)), iV x5, iV x6]) (pc := 64) hC dX10_factor_64 (Nat.le_of_ble_eq_true rfl) rfl ?_
        refine st_iinc (L2 := [rV 19 0, iV x1, iV x2, iV (w32 (x3.tdiv x5)), iV (w32 (x4 + 1)), iV x5, iV (w32 (x6 + 1))]) (pc := 65) hC dX10_factor_65 rfl (Nat.le_of_ble_eq_true rfl) rfl ?_
        refine st_goto (tg := 34) (pc := 68) hC dX10_factor_68 (by decide) ?_
        exact h
    · refine st_iinc (L2 := [rV 19 0, iV x1, iV x2, iV x3, iV x4, iV (w32 (x5 + 1)), iV x6]) (pc := 71) hC dX10_factor_71 rfl (Nat.le_of_ble_eq_true rfl) rfl ?_
      refine st_goto (tg := 14) (pc := 74) hC dX10_factor_74 (by decide) ?_
      exact st_fg (L2 := [rV 19 0, iV x1, iV x2, iV x3, iV x4, iV (w32 (x5 + 1)), uV]) hC ⟨Or.inl rfl, Or.inl rfl, Or.inl rfl, Or.inl rfl, Or.inl rfl, Or.inl rfl, Or.inr rfl, trivial⟩ h
  · refine st_iinc (L2 := [rV 19 0, iV x1, iV x2, iV x3, iV x4, iV (w32 (x5 + 1)), iV x6]) (pc := 71) hC dX10_factor_71 rfl (Nat.le_of_ble_eq_true rfl) rfl ?_
    refine st_goto (tg := 14) (pc := 74) hC dX10_factor_74 (by decide) ?_
    exact st_fg (L2 := [rV 19 0, iV x1, iV x2, iV x3, iV x4, iV (w32 (x5 + 1)), uV]) hC ⟨Or.inl rfl, Or.inl rfl, Or.inl rfl, Or.inl rfl, Or.inl rfl, Or.inl rfl, Or.inr rfl, trivial⟩ h
theorem bX10_smooth_0 {C : Nat → List Vv → Sg → Rs → Sg → Prop} {X : Nat → List Vv → List Vv → Sg → Prop} {Xr : List Vv → Sg → Prop} {Xt : Nat → Sg → Prop} (hC : Clo C 10 cX10_smooth (some .int) X Xr Xt) {x1 x2 : Int} {σ : Sg} (h : (C MX10_needSmallNumber [rV 19 0, iV x1] σ (.inl []) σ ∧ ((C MX10_needSmallPrime [rV 19 0, iV x2] σ (.inl []) σ ∧ (X 15 [rV 19 0, iV x1, iV x2, iV 0, iV 1] [] σ)) ∨ (∃ E4 : Nat, C MX10_needSmallPrime [rV 19 0, iV x2] σ (.inr E4) σ ∧ Xt E4 σ))) ∨ (∃ E2 : Nat, C MX10_needSmallNumber [rV 19 0, iV x1] σ (.inr E2) σ ∧ Xt E2 σ)) : X 0 [rV 19 0, iV x1, iV x2, uV, uV] [] σ := by
  refine st_aload_n (pc := 0) hC dX10_smooth_0 rfl (by decide) (by decide) ?_
  refine st_iload_n (pc := 1) hC dX10_smooth_1 rfl ?_
  rcases h with ⟨hq, h⟩ | ⟨E2, hq, h⟩
  · refine st_invV (As := [iV x1]) (v := []) (S := []) (pc := 2) hC dX10_smooth_2 cl_10_365 rfl rfl (Nat.le_of_ble_eq_true rfl) cr_X10_needSmallNumber hq ?_
    refine st_aload_n (pc := 5) hC dX10_smooth_5 rfl (by decide) (by decide) ?_
    refine st_iload_n (pc := 6) hC dX10_smooth_6 rfl ?_
    rcases h with ⟨hq, h⟩ | ⟨E4, hq, h⟩
    · refine st_invV (As := [iV x2]) (v := []) (S := []) (pc := 7) hC dX10_smooth_7 cl_10_302 rfl rfl (Nat.le_of_ble_eq_true rfl) cr_X10_needSmallPrime hq ?_
      refine st_iconst (pc := 10) hC dX10_smooth_10 (by decide) ?_
      refine st_istore_n (L2 := [rV 19 0, iV x1, iV x2, iV 0, uV]) (pc := 11) hC dX10_smooth_11 (Nat.le_of_ble_eq_true rfl) rfl ?_
      refine st_iconst (pc := 12) hC dX10_smooth_12 (by decide) ?_
      refine st_istore (L2 := [rV 19 0, iV x1, iV x2, iV 0, iV 1]) (pc := 13) hC dX10_smooth_13 (Nat.le_of_ble_eq_true rfl) rfl ?_
      exact h
    · exact st_invVx (As := [iV x2]) (S := []) (pc := 7) hC dX10_smooth_7 cl_10_302 rfl rfl (Nat.le_of_ble_eq_true rfl) cr_X10_needSmallPrime hq h
  · exact st_invVx (As := [iV x1]) (S := []) (pc := 2) hC dX10_smooth_2 cl_10_365 rfl rfl (Nat.le_of_ble_eq_true rfl) cr_X10_needSmallNumber hq h
theorem bX10_smooth_15 {C : Nat → List Vv → Sg → Rs → Sg → Prop} {X : Nat → List Vv → List Vv → Sg → Prop} {Xr : List Vv → Sg → Prop} {Xt : Nat → Sg → Prop} (hC : Clo C 10 cX10_smooth (some .int) X Xr Xt) {x1 x2 x3 x4 : Int} {σ : Sg} (h : if x1 < x4 then (Xr [iV x3] σ) else (∃ v1 : Int, C MX3_isSmooth [iV x4, iV x2] σ (.inl [iV v1]) σ ∧ (if v1 = 0 then (X 15 [rV 19 0, iV x1, iV x2, iV x3, iV (w32 (x4 + 1))] [] σ) else (X 15 [rV 19 0, iV x1, iV x2, iV (w32 (x3 + 1)), iV (w32 (x4 + 1))] [] σ)))) : X 15 [rV 19 0, iV x1, iV x2, iV x3, iV x4] [] σ := by
  refine st_iload (pc := 15) hC dX10_smooth_15 rfl ?_
  refine st_iload_n (pc := 17) hC dX10_smooth_17 rfl ?_
  refine st_icmp_gt (tg := 39) (pc := 18) hC dX10_smooth_18 (by decide) (ite_im h (fun h => ?_) (fun h => ?_))
  · refine st_iload_n (pc := 39) hC dX10_smooth_39 rfl ?_
    exact st_ireturn (pc := 40) hC dX10_smooth_40 trivial h
  · refine st_iload (pc := 21) hC dX10_smooth_21 rfl ?_
    refine st_iload_n (pc := 23) hC dX10_smooth_23 rfl ?_
    obtain ⟨v1, hq, h⟩ := h
    refine st_invS (As := [iV x4, iV x2]) (v := [iV v1]) (S := []) (pc := 24) hC dX10_smooth_24 cl_10_368 rfl rfl (Nat.le_of_ble_eq_true rfl) hq ?_
    refine st_if_eq (tg := 33) (pc := 27) hC dX10_smooth_27 (by decide) (ite_im h (fun h => ?_) (fun h => ?_))
    · refine st_iinc (L2 := [rV 19 0, iV x1, iV x2, iV x3, iV (w32 (x4 + 1))]) (pc := 33) hC dX10_smooth_33 rfl (Nat.le_of_ble_eq_true rfl) rfl ?_
      refine st_goto (tg := 15) (pc := 36) hC dX10_smooth_36 (by decide) ?_
      exact h
    · refine st_iinc (L2 := [rV 19 0, iV x1, iV x2, iV (w32 (x3 + 1)), iV x4]) (pc := 30) hC dX10_smooth_30 rfl (Nat.le_of_ble_eq_true rfl) rfl ?_
      refine st_iinc (L2 := [rV 19 0, iV x1, iV x2, iV (w32 (x3 + 1)), iV (w32 (x4 + 1))]) (pc := 33) hC dX10_smooth_33 rfl (Nat.le_of_ble_eq_true rfl) rfl ?_
      refine st_goto (tg := 15) (pc := 36) hC dX10_smooth_36 (by decide) ?_
      exact h
theorem bX10_primesTo_0 {C : Nat → List Vv → Sg → Rs → Sg → Prop} {X : Nat → List Vv → List Vv → Sg → Prop} {Xr : List Vv → Sg → Prop} {Xt : Nat → Sg → Prop} (hC : Clo C 10 cX10_primesTo (some .int) X Xr Xt) {x1 : Int} {σ : Sg} (h : (C MX10_needSmallNumber [rV 19 0, iV x1] σ (.inl []) σ ∧ (X 9 [rV 19 0, iV x1, iV 0, iV 2] [] σ)) ∨ (∃ E2 : Nat, C MX10_needSmallNumber [rV 19 0, iV x1] σ (.inr E2) σ ∧ Xt E2 σ)) : X 0 [rV 19 0, iV x1, uV, uV] [] σ := by
  refine st_aload_n (pc := 0) hC dX10_primesTo_0 rfl (by decide) (by decide) ?_
  refine st_iload_n (pc := 1) hC dX10_primesTo_1 rfl ?_
  rcases h with ⟨hq, h⟩ | ⟨E2, hq, h⟩
  · refine st_invV (As := [iV x1]) (v := []) (S := []) (pc := 2) hC dX10_primesTo_2 cl_10_365 rfl rfl (Nat.le_of_ble_eq_true rfl) cr_X10_needSmallNumber hq ?_
    refine st_iconst (pc := 5) hC dX10_primesTo_5 (by decide) ?_
    refine st_istore_n (L2 := [rV 19 0, iV x1, iV 0, uV]) (pc := 6) hC dX10_primesTo_6 (Nat.le_of_ble_eq_true rfl) rfl ?_
    refine st_iconst (pc := 7) hC dX10_primesTo_7 (by decide) ?_
    refine st_istore_n (L2 := [rV 19 0, iV x1, iV 0, iV 2]) (pc := 8) hC dX10_primesTo_8 (Nat.le_of_ble_eq_true rfl) rfl ?_
    exact h
  · exact st_invVx (As := [iV x1]) (S := []) (pc := 2) hC dX10_primesTo_2 cl_10_365 rfl rfl (Nat.le_of_ble_eq_true rfl) cr_X10_needSmallNumber hq h
theorem bX10_primesTo_9 {C : Nat → List Vv → Sg → Rs → Sg → Prop} {X : Nat → List Vv → List Vv → Sg → Prop} {Xr : List Vv → Sg → Prop} {Xt : Nat → Sg → Prop} (hC : Clo C 10 cX10_primesTo (some .int) X Xr Xt) {x1 x2 x3 : Int} {σ : Sg} (h : if x1 < x3 then (Xr [iV x2] σ) else (∃ v1 : Int, C MX3_leastFactor [iV x3] σ (.inl [iV v1]) σ ∧ (if v1 = x3 then (X 9 [rV 19 0, iV x1, iV (w32 (x2 + 1)), iV (w32 (x3 + 1))] [] σ) else (X 9 [rV 19 0, iV x1, iV x2, iV (w32 (x3 + 1))] [] σ)))) : X 9 [rV 19 0, iV x1, iV x2, iV x3] [] σ := by
  refine st_iload_n (pc := 9) hC dX10_primesTo_9 rfl ?_
  refine st_iload_n (pc := 10) hC dX10_primesTo_10 rfl ?_
  refine st_icmp_gt (tg := 31) (pc := 11) hC dX10_primesTo_11 (by decide) (ite_im h (fun h => ?_) (fun h => ?_))
  · refine st_iload_n (pc := 31) hC dX10_primesTo_31 rfl ?_
    exact st_ireturn (pc := 32) hC dX10_primesTo_32 trivial h
  · refine st_iload_n (pc := 14) hC dX10_primesTo_14 rfl ?_
    obtain ⟨v1, hq, h⟩ := h
    refine st_invS (As := [iV x3]) (v := [iV v1]) (S := []) (pc := 15) hC dX10_primesTo_15 cl_10_351 rfl rfl (Nat.le_of_ble_eq_true rfl) hq ?_
    refine st_iload_n (pc := 18) hC dX10_primesTo_18 rfl ?_
    refine st_icmp_ne (tg := 25) (pc := 19) hC dX10_primesTo_19 (by decide) (ite_im h (fun h => ?_) (fun h => ?_))
    · refine st_iinc (L2 := [rV 19 0, iV x1, iV (w32 (x2 + 1)), iV x3]) (pc := 22) hC dX10_primesTo_22 rfl (Nat.le_of_ble_eq_true rfl) rfl ?_
      refine st_iinc (L2 := [rV 19 0, iV x1, iV (w32 (x2 + 1)), iV (w32 (x3 + 1))]) (pc := 25) hC dX10_primesTo_25 rfl (Nat.le_of_ble_eq_true rfl) rfl ?_
      refine st_goto (tg := 9) (pc := 28) hC dX10_primesTo_28 (by decide) ?_
      exact h
    · refine st_iinc (L2 := [rV 19 0, iV x1, iV x2, iV (w32 (x3 + 1))]) (pc := 25) hC dX10_primesTo_25 rfl (Nat.le_of_ble_eq_true rfl) rfl ?_
      refine st_goto (tg := 9) (pc := 28) hC dX10_primesTo_28 (by decide) ?_
      exact h
theorem bX10_witness_0 {C : Nat → List Vv → Sg → Rs → Sg → Prop} {X : Nat → List Vv → List Vv → Sg → Prop} {Xr : List Vv → Sg → Prop} {Xt : Nat → Sg → Prop} (hC : Clo C 10 cX10_witness (some .int) X Xr Xt) {x1 : Int} {σ : Sg} (h : (C MX10_needNumber [rV 19 0, iV x1, iV 2] σ (.inl []) σ ∧ (X 8 [rV 19 0, iV x1, iV 2] [] σ)) ∨ (∃ E2 : Nat, C MX10_needNumber [rV 19 0, iV x1, iV 2] σ (.inr E2) σ ∧ Xt E2 σ)) : X 0 [rV 19 0, iV x1, uV] [] σ := by
  refine st_aload_n (pc := 0) hC dX10_witness_0 rfl (by decide) (by decide) ?_
  refine st_iload_n (pc := 1) hC dX10_witness_1 rfl ?_
  refine st_iconst (pc := 2) hC dX10_witness_2 (by decide) ?_
  rcases h with ⟨hq, h⟩ | ⟨E2, hq, h⟩
  · refine st_invV (As := [iV x1, iV 2]) (v := []) (S := []) (pc := 3) hC dX10_witness_3 cl_10_348 rfl rfl (Nat.le_of_ble_eq_true rfl) cr_X10_needNumber hq ?_
    refine st_iconst (pc := 6) hC dX10_witness_6 (by decide) ?_
    refine st_istore_n (L2 := [rV 19 0, iV x1, iV 2]) (pc := 7) hC dX10_witness_7 (Nat.le_of_ble_eq_true rfl) rfl ?_
    exact h
  · exact st_invVx (As := [iV x1, iV 2]) (S := []) (pc := 3) hC dX10_witness_3 cl_10_348 rfl rfl (Nat.le_of_ble_eq_true rfl) cr_X10_needNumber hq h
theorem bX10_witness_8 {C : Nat → List Vv → Sg → Rs → Sg → Prop} {X : Nat → List Vv → List Vv → Sg → Prop} {Xr : List Vv → Sg → Prop} {Xt : Nat → Sg → Prop} (hC : Clo C 10 cX10_witness (some .int) X Xr Xt) {x1 x2 : Int} {σ : Sg} (h : if (60 : Int) < x2 then (Xr [iV (-1)] σ) else (if x2 < x1 then (∃ v1 : Int, C MX3_power [lV x2, iV (w32 (x1 - 1)), lV x1] σ (.inl [lV v1]) σ ∧ (if v1 = 1 then (X 8 [rV 19 0, iV x1, iV (w32 (x2 + 1))] [] σ) else (Xr [iV x2] σ))) else (Xr [iV (-1)] σ))) : X 8 [rV 19 0, iV x1, iV x2] [] σ := by
  refine st_iload_n (pc := 8) hC dX10_witness_8 rfl ?_
  refine st_bipush (pc := 9) hC dX10_witness_9 (by decide) ?_
  refine st_icmp_gt (tg := 42) (pc := 11) hC dX10_witness_11 (by decide) (ite_im h (fun h => ?_) (fun h => ?_))
  · refine st_iconst (pc := 42) hC dX10_witness_42 (by decide) ?_
    exact st_ireturn (pc := 43) hC dX10_witness_43 trivial h
  · refine st_iload_n (pc := 14) hC dX10_witness_14 rfl ?_
    refine st_iload_n (pc := 15) hC dX10_witness_15 rfl ?_
    refine st_icmp_ge (tg := 42) (pc := 16) hC dX10_witness_16 (by decide) (ite_im h (fun h => ?_) (fun h => ?_))
    · refine st_iload_n (pc := 19) hC dX10_witness_19 rfl ?_
      refine st_i2l (pc := 20) hC dX10_witness_20 ?_
      refine st_iload_n (pc := 21) hC dX10_witness_21 rfl ?_
      refine st_iconst (pc := 22) hC dX10_witness_22 (by decide) ?_
      refine st_isub (pc := 23) hC dX10_witness_23 ?_
      refine st_iload_n (pc := 24) hC dX10_witness_24 rfl ?_
      refine st_i2l (pc := 25) hC dX10_witness_25 ?_
      obtain ⟨v1, hq, h⟩ := h
      refine st_invS (As := [lV x2, iV (w32 (x1 - 1)), lV x1]) (v := [lV v1]) (S := []) (pc := 26) hC dX10_witness_26 cl_10_203 rfl rfl (Nat.le_of_ble_eq_true rfl) hq ?_
      refine st_lconst1 (pc := 29) hC dX10_witness_29 ?_
      refine st_lcmp_eq (tg := 36) (pc := 30) hC dX10_witness_30 dX10_witness_31 (by decide) (ite_im h (fun h => ?_) (fun h => ?_))
      · refine st_iinc (L2 := [rV 19 0, iV x1, iV (w32 (x2 + 1))]) (pc := 36) hC dX10_witness_36 rfl (Nat.le_of_ble_eq_true rfl) rfl ?_
        refine st_goto (tg := 8) (pc := 39) hC dX10_witness_39 (by decide) ?_
        exact h
      · refine st_iload_n (pc := 34) hC dX10_witness_34 rfl ?_
        exact st_ireturn (pc := 35) hC dX10_witness_35 trivial h
    · refine st_iconst (pc := 42) hC dX10_witness_42 (by decide) ?_
      exact st_ireturn (pc := 43) hC dX10_witness_43 trivial h
theorem bX10_order_0 {C : Nat → List Vv → Sg → Rs → Sg → Prop} {X : Nat → List Vv → List Vv → Sg → Prop} {Xr : List Vv → Sg → Prop} {Xt : Nat → Sg → Prop} (hC : Clo C 10 cX10_order (some .int) X Xr Xt) {x1 x2 : Int} {σ : Sg} (h : if x2 < 2 then (Xt 2 σ) else (if (10000 : Int) < x2 then (Xt 2 σ) else (if x1 < 1 then (Xt 2 σ) else (if x1 < x2 then (X 38 [rV 19 0, iV x1, iV x2, iV x1, iV 1] [] σ) else (Xt 2 σ))))) : X 0 [rV 19 0, iV x1, iV x2, uV, uV] [] σ := by
  refine st_iload_n (pc := 0) hC dX10_order_0 rfl ?_
  refine st_iconst (pc := 1) hC dX10_order_1 (by decide) ?_
  refine st_icmp_lt (tg := 22) (pc := 2) hC dX10_order_2 (by decide) (ite_im h (fun h => ?_) (fun h => ?_))
  · exact st_throww (pc := 22) (E := 2) (k := 372) hC (by decide) dX10_order_22 dX10_order_25 rfl dX10_order_26 dX10_order_29 dX10_order_32 h
  · refine st_iload_n (pc := 5) hC dX10_order_5 rfl ?_
    refine st_sipush (pc := 6) hC dX10_order_6 (by decide) ?_
    refine st_icmp_gt (tg := 22) (pc := 9) hC dX10_order_9 (by decide) (ite_im h (fun h => ?_) (fun h => ?_))
    · exact st_throww (pc := 22) (E := 2) (k := 372) hC (by decide) dX10_order_22 dX10_order_25 rfl dX10_order_26 dX10_order_29 dX10_order_32 h
    · refine st_iload_n (pc := 12) hC dX10_order_12 rfl ?_
      refine st_iconst (pc := 13) hC dX10_order_13 (by decide) ?_
      refine st_icmp_lt (tg := 22) (pc := 14) hC dX10_order_14 (by decide) (ite_im h (fun h => ?_) (fun h => ?_))
      · exact st_throww (pc := 22) (E := 2) (k := 372) hC (by decide) dX10_order_22 dX10_order_25 rfl dX10_order_26 dX10_order_29 dX10_order_32 h
      · refine st_iload_n (pc := 17) hC dX10_order_17 rfl ?_
        refine st_iload_n (pc := 18) hC dX10_order_18 rfl ?_
        refine st_icmp_lt (tg := 33) (pc := 19) hC dX10_order_19 (by decide) (ite_im h (fun h => ?_) (fun h => ?_))
        · refine st_iload_n (pc := 33) hC dX10_order_33 rfl ?_
          refine st_istore_n (L2 := [rV 19 0, iV x1, iV x2, iV x1, uV]) (pc := 34) hC dX10_order_34 (Nat.le_of_ble_eq_true rfl) rfl ?_
          refine st_iconst (pc := 35) hC dX10_order_35 (by decide) ?_
          refine st_istore (L2 := [rV 19 0, iV x1, iV x2, iV x1, iV 1]) (pc := 36) hC dX10_order_36 (Nat.le_of_ble_eq_true rfl) rfl ?_
          exact h
        · exact st_throww (pc := 22) (E := 2) (k := 372) hC (by decide) dX10_order_22 dX10_order_25 rfl dX10_order_26 dX10_order_29 dX10_order_32 h
theorem bX10_order_38 {C : Nat → List Vv → Sg → Rs → Sg → Prop} {X : Nat → List Vv → List Vv → Sg → Prop} {Xr : List Vv → Sg → Prop} {Xt : Nat → Sg → Prop} (hC : Clo C 10 cX10_order (some .int) X Xr Xt) {x1 x2 x3 x4 : Int} {σ : Sg} (h : if x2 < x4 then (Xr [iV (-1)] σ) else (if x3 = 1 then (Xr [iV x4] σ) else (x2 ≠ 0 ∧ (X 38 [rV 19 0, iV x1, iV x2, iV ((w32 (x3 * x1)).tmod x2), iV (w32 (x4 + 1))] [] σ)))) : X 38 [rV 19 0, iV x1, iV x2, iV x3, iV x4] [] σ := by
  refine st_iload (pc := 38) hC dX10_order_38 rfl ?_
  refine st_iload_n (pc := 40) hC dX10_order_40 rfl ?_
  refine st_icmp_gt (tg := 64) (pc := 41) hC dX10_order_41 (by decide) (ite_im h (fun h => ?_) (fun h => ?_))
  · refine st_iconst (pc := 64) hC dX10_order_64 (by decide) ?_
    exact st_ireturn (pc := 65) hC dX10_order_65 trivial h
  · refine st_iload_n (pc := 44) hC dX10_order_44 rfl ?_
    refine st_iconst (pc := 45) hC dX10_order_45 (by decide) ?_
    refine st_icmp_ne (tg := 52) (pc := 46) hC dX10_order_46 (by decide) (ite_im h (fun h => ?_) (fun h => ?_))
    · refine st_iload (pc := 49) hC dX10_order_49 rfl ?_
      exact st_ireturn (pc := 51) hC dX10_order_51 trivial h
    · refine st_iload_n (pc := 52) hC dX10_order_52 rfl ?_
      refine st_iload_n (pc := 53) hC dX10_order_53 rfl ?_
      refine st_imul (pc := 54) hC dX10_order_54 ?_
      refine st_iload_n (pc := 55) hC dX10_order_55 rfl ?_
      obtain ⟨h0, h⟩ := h
      refine st_irem (pc := 56) hC dX10_order_56 h0 ?_
      refine st_istore_n (L2 := [rV 19 0, iV x1, iV x2, iV ((w32 (x3 * x1)).tmod x2), iV x4]) (pc := 57) hC dX10_order_57 (Nat.le_of_ble_eq_true rfl) rfl ?_
      refine st_iinc (L2 := [rV 19 0, iV x1, iV x2, iV ((w32 (x3 * x1)).tmod x2), iV (w32 (x4 + 1))]) (pc := 58) hC dX10_order_58 rfl (Nat.le_of_ble_eq_true rfl) rfl ?_
      refine st_goto (tg := 38) (pc := 61) hC dX10_order_61 (by decide) ?_
      exact h
theorem bX10_owe_0 {C : Nat → List Vv → Sg → Rs → Sg → Prop} {X : Nat → List Vv → List Vv → Sg → Prop} {Xr : List Vv → Sg → Prop} {Xt : Nat → Sg → Prop} (hC : Clo C 10 cX10_owe (some .long) X Xr Xt) {x1 x2 x3 : Int} {σ : Sg} (h : (C MX10_needTwo [rV 19 0, iV x1, iV x2] σ (.inl []) σ ∧ (if x3 < 1 then (Xt 2 σ) else (if (1000000 : Int) < x3 then (Xt 2 σ) else (∃ v3 : Int, C MX1_of [rV 11 8, iV x1, iV x2] σ (.inl [lV v3]) σ ∧ (if (1000000000 : Int) < (w64 (v3 * x3)) then (Xt 3 σ) else (∃ σ4 : Sg, C MX1_set [rV 11 8, iV x1, iV x2, lV (w64 (v3 * x3))] σ (.inl []) σ4 ∧ (Xr [lV (w64 (v3 * x3))] σ4))))))) ∨ (∃ E2 : Nat, C MX10_needTwo [rV 19 0, iV x1, iV x2] σ (.inr E2) σ ∧ Xt E2 σ)) : X 0 [rV 19 0, iV x1, iV x2, lV x3, uV, uV, uV] [] σ := by
  refine st_aload_n (pc := 0) hC dX10_owe_0 rfl (by decide) (by decide) ?_
  refine st_iload_n (pc := 1) hC dX10_owe_1 rfl ?_
  refine st_iload_n (pc := 2) hC dX10_owe_2 rfl ?_
  rcases h with ⟨hq, h⟩ | ⟨E2, hq, h⟩
  · refine st_invV (As := [iV x1, iV x2]) (v := []) (S := []) (pc := 3) hC dX10_owe_3 cl_10_165 rfl rfl (Nat.le_of_ble_eq_true rfl) cr_X10_needTwo hq ?_
    refine st_lload_n (pc := 6) hC dX10_owe_6 rfl ?_
    refine st_lconst1 (pc := 7) hC dX10_owe_7 ?_
    refine st_lcmp_lt (tg := 20) (pc := 8) hC dX10_owe_8 dX10_owe_9 (by decide) (ite_im h (fun h => ?_) (fun h => ?_))
    · exact st_throww (pc := 20) (E := 2) (k := 376) hC (by decide) dX10_owe_20 dX10_owe_23 rfl dX10_owe_24 dX10_owe_27 dX10_owe_30 h
    · refine st_lload_n (pc := 12) hC dX10_owe_12 rfl ?_
      refine st_ldc2 (pc := 13) hC dX10_owe_13 rfl ?_
      refine st_lcmp_le (tg := 31) (pc := 16) hC dX10_owe_16 dX10_owe_17 (by decide) (ite_im h (fun h => ?_) (fun h => ?_))
      · exact st_throww (pc := 20) (E := 2) (k := 376) hC (by decide) dX10_owe_20 dX10_owe_23 rfl dX10_owe_24 dX10_owe_27 dX10_owe_30 h
      · refine st_aload_n (pc := 31) hC dX10_owe_31 rfl (by decide) (by decide) ?_
        refine st_getf (ci := 9) (f := 4) (v := rV 17 7) (pc := 32) hC dX10_owe_32 fl_10_26 rfl rfl ?_
        refine st_getf (ci := 7) (f := 4) (v := rV 11 8) (pc := 35) hC dX10_owe_35 fl_10_378 rfl rfl ?_
        refine st_iload_n (pc := 38) hC dX10_owe_38 rfl ?_
        refine st_iload_n (pc := 39) hC dX10_owe_39 rfl ?_
        obtain ⟨v3, hq, h⟩ := h
        refine st_invV (As := [iV x1, iV x2]) (v := [lV v3]) (S := []) (pc := 40) hC dX10_owe_40 cl_10_382 rfl rfl (Nat.le_of_ble_eq_true rfl) cr_X1_of hq ?_
        refine st_lload_n (pc := 43) hC dX10_owe_43 rfl ?_
        refine st_lmul (pc := 44) hC dX10_owe_44 ?_
        refine st_lstore (L2 := [rV 19 0, iV x1, iV x2, lV x3, uV, lV (w64 (v3 * x3)), uV]) (pc := 45) hC dX10_owe_45 (Nat.le_of_ble_eq_true rfl) rfl ?_
        refine st_lload (pc := 47) hC dX10_owe_47 rfl ?_
        refine st_ldc2 (pc := 49) hC dX10_owe_49 rfl ?_
        refine st_lcmp_le (tg := 67) (pc := 52) hC dX10_owe_52 dX10_owe_53 (by decide) (ite_im h (fun h => ?_) (fun h => ?_))
        · exact st_throww (pc := 56) (E := 3) (k := 388) hC (by decide) dX10_owe_56 dX10_owe_59 rfl dX10_owe_60 dX10_owe_63 dX10_owe_66 h
        · refine st_aload_n (pc := 67) hC dX10_owe_67 rfl (by decide) (by decide) ?_
          refine st_getf (ci := 9) (f := 4) (v := rV 17 7) (pc := 68) hC dX10_owe_68 fl_10_26 rfl rfl ?_
          refine st_getf (ci := 7) (f := 4) (v := rV 11 8) (pc := 71) hC dX10_owe_71 fl_10_378 rfl rfl ?_
          refine st_iload_n (pc := 74) hC dX10_owe_74 rfl ?_
          refine st_iload_n (pc := 75) hC dX10_owe_75 rfl ?_
          refine st_lload (pc := 76) hC dX10_owe_76 rfl ?_
          obtain ⟨σ4, hq, h⟩ := h
          refine st_invV (As := [iV x1, iV x2, lV (w64 (v3 * x3))]) (v := []) (S := []) (pc := 78) hC dX10_owe_78 cl_10_390 rfl rfl (Nat.le_of_ble_eq_true rfl) cr_X1_set hq ?_
          refine st_lload (pc := 81) hC dX10_owe_81 rfl ?_
          exact st_lreturn (pc := 83) hC dX10_owe_83 h
  · exact st_invVx (As := [iV x1, iV x2]) (S := []) (pc := 3) hC dX10_owe_3 cl_10_165 rfl rfl (Nat.le_of_ble_eq_true rfl) cr_X10_needTwo hq h
theorem bX10_owed_0 {C : Nat → List Vv → Sg → Rs → Sg → Prop} {X : Nat → List Vv → List Vv → Sg → Prop} {Xr : List Vv → Sg → Prop} {Xt : Nat → Sg → Prop} (hC : Clo C 10 cX10_owed (some .long) X Xr Xt) {x1 x2 : Int} {σ : Sg} (h : (C MX10_needPerson [rV 19 0, iV x1] σ (.inl []) σ ∧ ((C MX10_needPerson [rV 19 0, iV x2] σ (.inl []) σ ∧ (∃ v5 : Int, C MX1_of [rV 11 8, iV x1, iV x2] σ (.inl [lV v5]) σ ∧ (Xr [lV v5] σ))) ∨ (∃ E4 : Nat, C MX10_needPerson [rV 19 0, iV x2] σ (.inr E4) σ ∧ Xt E4 σ))) ∨ (∃ E2 : Nat, C MX10_needPerson [rV 19 0, iV x1] σ (.inr E2) σ ∧ Xt E2 σ)) : X 0 [rV 19 0, iV x1, iV x2] [] σ := by
  refine st_aload_n (pc := 0) hC dX10_owed_0 rfl (by decide) (by decide) ?_
  refine st_iload_n (pc := 1) hC dX10_owed_1 rfl ?_
  rcases h with ⟨hq, h⟩ | ⟨E2, hq, h⟩
  · refine st_invV (As := [iV x1]) (v := []) (S := []) (pc := 2) hC dX10_owed_2 cl_10_129 rfl rfl (Nat.le_of_ble_eq_true rfl) cr_X10_needPerson hq ?_
    refine st_aload_n (pc := 5) hC dX10_owed_5 rfl (by decide) (by decide) ?_
    refine st_iload_n (pc := 6) hC dX10_owed_6 rfl ?_
    rcases h with ⟨hq, h⟩ | ⟨E4, hq, h⟩
    · refine st_invV (As := [iV x2]) (v := []) (S := []) (pc := 7) hC dX10_owed_7 cl_10_129 rfl rfl (Nat.le_of_ble_eq_true rfl) cr_X10_needPerson hq ?_
      refine st_aload_n (pc := 10) hC dX10_owed_10 rfl (by decide) (by decide) ?_
      refine st_getf (ci := 9) (f := 4) (v := rV 17 7) (pc := 11) hC dX10_owed_11 fl_10_26 rfl rfl ?_
      refine st_getf (ci := 7) (f := 4) (v := rV 11 8) (pc := 14) hC dX10_owed_14 fl_10_378 rfl rfl ?_
      refine st_iload_n (pc := 17) hC dX10_owed_17 rfl ?_
      refine st_iload_n (pc := 18) hC dX10_owed_18 rfl ?_
      obtain ⟨v5, hq, h⟩ := h
      refine st_invV (As := [iV x1, iV x2]) (v := [lV v5]) (S := []) (pc := 19) hC dX10_owed_19 cl_10_382 rfl rfl (Nat.le_of_ble_eq_true rfl) cr_X1_of hq ?_
      exact st_lreturn (pc := 22) hC dX10_owed_22 h
    · exact st_invVx (As := [iV x2]) (S := []) (pc := 7) hC dX10_owed_7 cl_10_129 rfl rfl (Nat.le_of_ble_eq_true rfl) cr_X10_needPerson hq h
  · exact st_invVx (As := [iV x1]) (S := []) (pc := 2) hC dX10_owed_2 cl_10_129 rfl rfl (Nat.le_of_ble_eq_true rfl) cr_X10_needPerson hq h
theorem bX10_struck_0 {C : Nat → List Vv → Sg → Rs → Sg → Prop} {X : Nat → List Vv → List Vv → Sg → Prop} {Xr : List Vv → Sg → Prop} {Xt : Nat → Sg → Prop} (hC : Clo C 10 cX10_struck (some .int) X Xr Xt) {σ : Sg} (h : ∃ v1 : Int, ∃ σ1 : Sg, C MX1_strikeAll [rV 11 8] σ (.inl [iV v1]) σ1 ∧ (Xr [iV v1] σ1)) : X 0 [rV 19 0] [] σ := by
  refine st_aload_n (pc := 0) hC dX10_struck_0 rfl (by decide) (by decide) ?_
  refine st_getf (ci := 9) (f := 4) (v := rV 17 7) (pc := 1) hC dX10_struck_1 fl_10_26 rfl rfl ?_
  refine st_getf (ci := 7) (f := 4) (v := rV 11 8) (pc := 4) hC dX10_struck_4 fl_10_378 rfl rfl ?_
  obtain ⟨v1, σ1, hq, h⟩ := h
  refine st_invV (As := []) (v := [iV v1]) (S := []) (pc := 7) hC dX10_struck_7 cl_10_394 rfl rfl (Nat.le_of_ble_eq_true rfl) cr_X1_strikeAll hq ?_
  exact st_ireturn (pc := 10) hC dX10_struck_10 trivial h
theorem bX10_tray_0 {C : Nat → List Vv → Sg → Rs → Sg → Prop} {X : Nat → List Vv → List Vv → Sg → Prop} {Xr : List Vv → Sg → Prop} {Xt : Nat → Sg → Prop} (hC : Clo C 10 cX10_tray none X Xr Xt) {x1 x2 x3 : Int} {σ : Sg} (h : if x1 < 0 then (Xt 1 σ) else (if x1 < 4 then (if x2 < 0 then (Xt 2 σ) else (if (3 : Int) < x2 then (Xt 2 σ) else (if x3 < 0 then (Xt 2 σ) else (if (30 : Int) < x3 then (Xt 2 σ) else ((0 ≤ x1 ∧ x1 < 4) ∧ (∃ σ1 : Sg, C MX9_layRow [rV 18 (44 + 1 + 2 * (x1).toNat), iV x2, iV x3] σ (.inl []) σ1 ∧ (Xr [] σ1))))))) else (Xt 1 σ))) : X 0 [rV 19 0, iV x1, iV x2, iV x3] [] σ := by
  refine st_iload_n (pc := 0) hC dX10_tray_0 rfl ?_
  refine st_if_lt (tg := 9) (pc := 1) hC dX10_tray_1 (by decide) (ite_im h (fun h => ?_) (fun h => ?_))
  · exact st_throww (pc := 9) (E := 1) (k := 397) hC (by decide) dX10_tray_9 dX10_tray_12 rfl dX10_tray_13 dX10_tray_16 dX10_tray_19 h
  · refine st_iload_n (pc := 4) hC dX10_tray_4 rfl ?_
    refine st_iconst (pc := 5) hC dX10_tray_5 (by decide) ?_
    refine st_icmp_lt (tg := 20) (pc := 6) hC dX10_tray_6 (by decide) (ite_im h (fun h => ?_) (fun h => ?_))
    · refine st_iload_n (pc := 20) hC dX10_tray_20 rfl ?_
      refine st_if_lt (tg := 39) (pc := 21) hC dX10_tray_21 (by decide) (ite_im h (fun h => ?_) (fun h => ?_))
      · exact st_throww (pc := 39) (E := 2) (k := 399) hC (by decide) dX10_tray_39 dX10_tray_42 rfl dX10_tray_43 dX10_tray_46 dX10_tray_49 h
      · refine st_iload_n (pc := 24) hC dX10_tray_24 rfl ?_
        refine st_iconst (pc := 25) hC dX10_tray_25 (by decide) ?_
        refine st_icmp_gt (tg := 39) (pc := 26) hC dX10_tray_26 (by decide) (ite_im h (fun h => ?_) (fun h => ?_))
        · exact st_throww (pc := 39) (E := 2) (k := 399) hC (by decide) dX10_tray_39 dX10_tray_42 rfl dX10_tray_43 dX10_tray_46 dX10_tray_49 h
        · refine st_iload_n (pc := 29) hC dX10_tray_29 rfl ?_
          refine st_if_lt (tg := 39) (pc := 30) hC dX10_tray_30 (by decide) (ite_im h (fun h => ?_) (fun h => ?_))
          · exact st_throww (pc := 39) (E := 2) (k := 399) hC (by decide) dX10_tray_39 dX10_tray_42 rfl dX10_tray_43 dX10_tray_46 dX10_tray_49 h
          · refine st_iload_n (pc := 33) hC dX10_tray_33 rfl ?_
            refine st_bipush (pc := 34) hC dX10_tray_34 (by decide) ?_
            refine st_icmp_le (tg := 50) (pc := 36) hC dX10_tray_36 (by decide) (ite_im h (fun h => ?_) (fun h => ?_))
            · exact st_throww (pc := 39) (E := 2) (k := 399) hC (by decide) dX10_tray_39 dX10_tray_42 rfl dX10_tray_43 dX10_tray_46 dX10_tray_49 h
            · refine st_aload_n (pc := 50) hC dX10_tray_50 rfl (by decide) (by decide) ?_
              refine st_getf (ci := 9) (f := 8) (v := rV 5000004 44) (pc := 51) hC dX10_tray_51 fl_10_43 rfl rfl ?_
              refine st_iload_n (pc := 54) hC dX10_tray_54 rfl ?_
              obtain ⟨hb, h⟩ := h
              refine st_aaldR (pc := 55) hC dX10_tray_55 hb ?_
              refine st_iload_n (pc := 56) hC dX10_tray_56 rfl ?_
              refine st_iload_n (pc := 57) hC dX10_tray_57 rfl ?_
              obtain ⟨σ1, hq, h⟩ := h
              refine st_invV (As := [iV x2, iV x3]) (v := []) (S := []) (pc := 58) hC dX10_tray_58 cl_10_401 rfl rfl (Nat.le_of_ble_eq_true rfl) cr_X9_layRow hq ?_
              exact st_return (pc := 61) hC dX10_tray_61 h
    · exact st_throww (pc := 9) (E := 1) (k := 397) hC (by decide) dX10_tray_9 dX10_tray_12 rfl dX10_tray_13 dX10_tray_16 dX10_tray_19 h
theorem bX10_write_0 {C : Nat → List Vv → Sg → Rs → Sg → Prop} {X : Nat → List Vv → List Vv → Sg → Prop} {Xr : List Vv → Sg → Prop} {Xt : Nat → Sg → Prop} (hC : Clo C 10 cX10_write (some .long) X Xr Xt) {x1 x2 x3 : Int} {σ : Sg} (h : (∃ v1 : Nat, C MX10_needTray [rV 19 0, iV x1] σ (.inl [rV 18 v1]) σ ∧ (if x2 < 0 then (Xt 4 σ) else (if x2 < (σ v1 1) then (∃ v3 : Int, ∃ σ3 : Sg, C MX9_put [rV 18 v1, iV x2, lV x3] σ (.inl [lV v3]) σ3 ∧ (Xr [lV v3] σ3)) else (Xt 4 σ)))) ∨ (∃ E2 : Nat, C MX10_needTray [rV 19 0, iV x1] σ (.inr E2) σ ∧ Xt E2 σ)) : X 0 [rV 19 0, iV x1, iV x2, lV x3, uV, uV] [] σ := by
  refine st_aload_n (pc := 0) hC dX10_write_0 rfl (by decide) (by decide) ?_
  refine st_iload_n (pc := 1) hC dX10_write_1 rfl ?_
  rcases h with ⟨v1, hq, h⟩ | ⟨E2, hq, h⟩
  · refine st_invV (As := [iV x1]) (v := [rV 18 v1]) (S := []) (pc := 2) hC dX10_write_2 cl_10_223 rfl rfl (Nat.le_of_ble_eq_true rfl) cr_X10_needTray hq ?_
    refine st_astore (L2 := [rV 19 0, iV x1, iV x2, lV x3, uV, rV 18 v1]) (pc := 5) hC dX10_write_5 (by decide) (by decide) (Nat.le_of_ble_eq_true rfl) rfl ?_
    refine st_iload_n (pc := 7) hC dX10_write_7 rfl ?_
    refine st_if_lt (tg := 20) (pc := 8) hC dX10_write_8 (by decide) (ite_im h (fun h => ?_) (fun h => ?_))
    · exact st_throww (pc := 20) (E := 4) (k := 406) hC (by decide) dX10_write_20 dX10_write_23 rfl dX10_write_24 dX10_write_27 dX10_write_30 h
    · refine st_iload_n (pc := 11) hC dX10_write_11 rfl ?_
      refine st_aload (pc := 12) hC dX10_write_12 rfl (by decide) (by decide) ?_
      refine st_getf (ci := 8) (f := 1) (v := iV (σ v1 1)) (pc := 14) hC dX10_write_14 fl_10_234 rfl rfl ?_
      refine st_icmp_lt (tg := 31) (pc := 17) hC dX10_write_17 (by decide) (ite_im h (fun h => ?_) (fun h => ?_))
      · refine st_aload (pc := 31) hC dX10_write_31 rfl (by decide) (by decide) ?_
        refine st_iload_n (pc := 33) hC dX10_write_33 rfl ?_
        refine st_lload_n (pc := 34) hC dX10_write_34 rfl ?_
        obtain ⟨v3, σ3, hq, h⟩ := h
        refine st_invV (As := [iV x2, lV x3]) (v := [lV v3]) (S := []) (pc := 35) hC dX10_write_35 cl_10_409 rfl rfl (Nat.le_of_ble_eq_true rfl) cr_X9_put hq ?_
        exact st_lreturn (pc := 38) hC dX10_write_38 h
      · exact st_throww (pc := 20) (E := 4) (k := 406) hC (by decide) dX10_write_20 dX10_write_23 rfl dX10_write_24 dX10_write_27 dX10_write_30 h
  · exact st_invVx (As := [iV x1]) (S := []) (pc := 2) hC dX10_write_2 cl_10_223 rfl rfl (Nat.le_of_ble_eq_true rfl) cr_X10_needTray hq h
theorem bX10_pour_0 {C : Nat → List Vv → Sg → Rs → Sg → Prop} {X : Nat → List Vv → List Vv → Sg → Prop} {Xr : List Vv → Sg → Prop} {Xt : Nat → Sg → Prop} (hC : Clo C 10 cX10_pour (some .int) X Xr Xt) {x1 : Int} {σ : Sg} (h : (∃ v1 : Nat, C MX10_needTray [rV 19 0, iV x1] σ (.inl [rV 18 v1]) σ ∧ (X 24 [rV 19 0, iV x1, rV 18 v1, iV (min (σ 7 2) (σ v1 1)), iV 0] [] σ)) ∨ (∃ E2 : Nat, C MX10_needTray [rV 19 0, iV x1] σ (.inr E2) σ ∧ Xt E2 σ)) : X 0 [rV 19 0, iV x1, uV, uV, uV] [] σ := by
  refine st_aload_n (pc := 0) hC dX10_pour_0 rfl (by decide) (by decide) ?_
  refine st_iload_n (pc := 1) hC dX10_pour_1 rfl ?_
  rcases h with ⟨v1, hq, h⟩ | ⟨E2, hq, h⟩
  · refine st_invV (As := [iV x1]) (v := [rV 18 v1]) (S := []) (pc := 2) hC dX10_pour_2 cl_10_223 rfl rfl (Nat.le_of_ble_eq_true rfl) cr_X10_needTray hq ?_
    refine st_astore_n (L2 := [rV 19 0, iV x1, rV 18 v1, uV, uV]) (pc := 5) hC dX10_pour_5 (by decide) (by decide) (Nat.le_of_ble_eq_true rfl) rfl ?_
    refine st_aload_n (pc := 6) hC dX10_pour_6 rfl (by decide) (by decide) ?_
    refine st_getf (ci := 9) (f := 4) (v := rV 17 7) (pc := 7) hC dX10_pour_7 fl_10_26 rfl rfl ?_
    refine st_getf (ci := 7) (f := 2) (v := iV (σ 7 2)) (pc := 10) hC dX10_pour_10 fl_10_211 rfl rfl ?_
    refine st_aload_n (pc := 13) hC dX10_pour_13 rfl (by decide) (by decide) ?_
    refine st_getf (ci := 8) (f := 1) (v := iV (σ v1 1)) (pc := 14) hC dX10_pour_14 fl_10_234 rfl rfl ?_
    refine st_mmin (pc := 17) hC dX10_pour_17 rfl (Nat.le_of_ble_eq_true rfl) ?_
    refine st_istore_n (L2 := [rV 19 0, iV x1, rV 18 v1, iV (min (σ 7 2) (σ v1 1)), uV]) (pc := 20) hC dX10_pour_20 (Nat.le_of_ble_eq_true rfl) rfl ?_
    refine st_iconst (pc := 21) hC dX10_pour_21 (by decide) ?_
    refine st_istore (L2 := [rV 19 0, iV x1, rV 18 v1, iV (min (σ 7 2) (σ v1 1)), iV 0]) (pc := 22) hC dX10_pour_22 (Nat.le_of_ble_eq_true rfl) rfl ?_
    exact h
  · exact st_invVx (As := [iV x1]) (S := []) (pc := 2) hC dX10_pour_2 cl_10_223 rfl rfl (Nat.le_of_ble_eq_true rfl) cr_X10_needTray hq h
theorem bX10_pour_24 {C : Nat → List Vv → Sg → Rs → Sg → Prop} {X : Nat → List Vv → List Vv → Sg → Prop} {Xr : List Vv → Sg → Prop} {Xt : Nat → Sg → Prop} (hC : Clo C 10 cX10_pour (some .int) X Xr Xt) {x1 x3 x4 : Int} {t2 : Nat} {σ : Sg} (h : if x4 < x3 then (∃ v1 : Int, C MX8_worthOf [rV 17 7, iV x4] σ (.inl [lV v1]) σ ∧ (∃ v2 : Int, ∃ σ2 : Sg, C MX9_put [rV 18 t2, iV x4, lV v1] σ (.inl [lV v2]) σ2 ∧ (X 24 [rV 19 0, iV x1, rV 18 t2, iV x3, iV (w32 (x4 + 1))] [] σ2))) else (Xr [iV x3] σ)) : X 24 [rV 19 0, iV x1, rV 18 t2, iV x3, iV x4] [] σ := by
  refine st_iload (pc := 24) hC dX10_pour_24 rfl ?_
  refine st_iload_n (pc := 26) hC dX10_pour_26 rfl ?_
  refine st_icmp_ge (tg := 52) (pc := 27) hC dX10_pour_27 (by decide) (ite_im h (fun h => ?_) (fun h => ?_))
  · refine st_aload_n (pc := 30) hC dX10_pour_30 rfl (by decide) (by decide) ?_
    refine st_iload (pc := 31) hC dX10_pour_31 rfl ?_
    refine st_aload_n (pc := 33) hC dX10_pour_33 rfl (by decide) (by decide) ?_
    refine st_getf (ci := 9) (f := 4) (v := rV 17 7) (pc := 34) hC dX10_pour_34 fl_10_26 rfl rfl ?_
    refine st_iload (pc := 37) hC dX10_pour_37 rfl ?_
    obtain ⟨v1, hq, h⟩ := h
    refine st_invV (As := [iV x4]) (v := [lV v1]) (S := [iV x4, rV 18 t2]) (pc := 39) hC dX10_pour_39 cl_10_155 rfl rfl (Nat.le_of_ble_eq_true rfl) cr_X8_worthOf hq ?_
    obtain ⟨v2, σ2, hq, h⟩ := h
    refine st_invV (As := [iV x4, lV v1]) (v := [lV v2]) (S := []) (pc := 42) hC dX10_pour_42 cl_10_409 rfl rfl (Nat.le_of_ble_eq_true rfl) cr_X9_put hq ?_
    refine st_pop2l (pc := 45) hC dX10_pour_45 ?_
    refine st_iinc (L2 := [rV 19 0, iV x1, rV 18 t2, iV x3, iV (w32 (x4 + 1))]) (pc := 46) hC dX10_pour_46 rfl (Nat.le_of_ble_eq_true rfl) rfl ?_
    refine st_goto (tg := 24) (pc := 49) hC dX10_pour_49 (by decide) ?_
    exact h
  · refine st_iload_n (pc := 52) hC dX10_pour_52 rfl ?_
    exact st_ireturn (pc := 53) hC dX10_pour_53 trivial h
theorem bX10_image_0 {C : Nat → List Vv → Sg → Rs → Sg → Prop} {X : Nat → List Vv → List Vv → Sg → Prop} {Xr : List Vv → Sg → Prop} {Xt : Nat → Sg → Prop} (hC : Clo C 10 cX10_image none X Xr Xt) {x1 : Int} {σ : Sg} (h : (C MX10_needImage [rV 19 0, iV x1] σ (.inl []) σ ∧ ((0 ≤ x1 ∧ x1 < 3) ∧ (∃ σ3 : Sg, C MX8_become [rV 17 (21 + 1 + 7 * (x1).toNat), rV 17 7] σ (.inl []) σ3 ∧ ((0 ≤ x1 ∧ x1 < 3) ∧ (Xr [] (upS σ3 43 (x1).toNat 1)))))) ∨ (∃ E2 : Nat, C MX10_needImage [rV 19 0, iV x1] σ (.inr E2) σ ∧ Xt E2 σ)) : X 0 [rV 19 0, iV x1] [] σ := by
  refine st_aload_n (pc := 0) hC dX10_image_0 rfl (by decide) (by decide) ?_
  refine st_iload_n (pc := 1) hC dX10_image_1 rfl ?_
  rcases h with ⟨hq, h⟩ | ⟨E2, hq, h⟩
  · refine st_invV (As := [iV x1]) (v := []) (S := []) (pc := 2) hC dX10_image_2 cl_10_416 rfl rfl (Nat.le_of_ble_eq_true rfl) cr_X10_needImage hq ?_
    refine st_aload_n (pc := 5) hC dX10_image_5 rfl (by decide) (by decide) ?_
    refine st_getf (ci := 9) (f := 6) (v := rV 4000003 21) (pc := 6) hC dX10_image_6 fl_10_33 rfl rfl ?_
    refine st_iload_n (pc := 9) hC dX10_image_9 rfl ?_
    obtain ⟨hb, h⟩ := h
    refine st_aaldT (pc := 10) hC dX10_image_10 hb ?_
    refine st_aload_n (pc := 11) hC dX10_image_11 rfl (by decide) (by decide) ?_
    refine st_getf (ci := 9) (f := 4) (v := rV 17 7) (pc := 12) hC dX10_image_12 fl_10_26 rfl rfl ?_
    obtain ⟨σ3, hq, h⟩ := h
    refine st_invV (As := [rV 17 7]) (v := []) (S := []) (pc := 15) hC dX10_image_15 cl_10_110 rfl rfl (Nat.le_of_ble_eq_true rfl) cr_X8_become hq ?_
    refine st_aload_n (pc := 18) hC dX10_image_18 rfl (by decide) (by decide) ?_
    refine st_getf (ci := 9) (f := 7) (v := rV 3000003 43) (pc := 19) hC dX10_image_19 fl_10_37 rfl rfl ?_
    refine st_iload_n (pc := 22) hC dX10_image_22 rfl ?_
    refine st_iconst (pc := 23) hC dX10_image_23 (by decide) ?_
    obtain ⟨hb, h⟩ := h
    refine st_zast (n := 3) (pc := 24) hC dX10_image_24 (by decide) hb (Or.inr rfl) ?_
    exact st_return (pc := 25) hC dX10_image_25 h
  · exact st_invVx (As := [iV x1]) (S := []) (pc := 2) hC dX10_image_2 cl_10_416 rfl rfl (Nat.le_of_ble_eq_true rfl) cr_X10_needImage hq h
theorem bX10_restore_0 {C : Nat → List Vv → Sg → Rs → Sg → Prop} {X : Nat → List Vv → List Vv → Sg → Prop} {Xr : List Vv → Sg → Prop} {Xt : Nat → Sg → Prop} (hC : Clo C 10 cX10_restore none X Xr Xt) {x1 : Int} {σ : Sg} (h : (C MX10_needImage [rV 19 0, iV x1] σ (.inl []) σ ∧ ((0 ≤ x1 ∧ x1 < 3) ∧ (if (σ 43 (x1).toNat) = 0 then (Xt 3 σ) else ((0 ≤ x1 ∧ x1 < 3) ∧ (∃ σ3 : Sg, C MX8_become [rV 17 7, rV 17 (21 + 1 + 7 * (x1).toNat)] σ (.inl []) σ3 ∧ (Xr [] σ3)))))) ∨ (∃ E2 : Nat, C MX10_needImage [rV 19 0, iV x1] σ (.inr E2) σ ∧ Xt E2 σ)) : X 0 [rV 19 0, iV x1] [] σ := by
  refine st_aload_n (pc := 0) hC dX10_restore_0 rfl (by decide) (by decide) ?_
  refine st_iload_n (pc := 1) hC dX10_restore_1 rfl ?_
  rcases h with ⟨hq, h⟩ | ⟨E2, hq, h⟩
  · refine st_invV (As := [iV x1]) (v := []) (S := []) (pc := 2) hC dX10_restore_2 cl_10_416 rfl rfl (Nat.le_of_ble_eq_true rfl) cr_X10_needImage hq ?_
    refine st_aload_n (pc := 5) hC dX10_restore_5 rfl (by decide) (by decide) ?_
    refine st_getf (ci := 9) (f := 7) (v := rV 3000003 43) (pc := 6) hC dX10_restore_6 fl_10_37 rfl rfl ?_
    refine st_iload_n (pc := 9) hC dX10_restore_9 rfl ?_
    obtain ⟨hb, h⟩ := h
    refine st_zald (n := 3) (pc := 10) hC dX10_restore_10 (by decide) hb ?_
    refine st_if_ne (tg := 25) (pc := 11) hC dX10_restore_11 (by decide) (ite_im h (fun h => ?_) (fun h => ?_))
    · exact st_throww (pc := 14) (E := 3) (k := 419) hC (by decide) dX10_restore_14 dX10_restore_17 rfl dX10_restore_18 dX10_restore_21 dX10_restore_24 h
    · refine st_aload_n (pc := 25) hC dX10_restore_25 rfl (by decide) (by decide) ?_
      refine st_getf (ci := 9) (f := 4) (v := rV 17 7) (pc := 26) hC dX10_restore_26 fl_10_26 rfl rfl ?_
      refine st_aload_n (pc := 29) hC dX10_restore_29 rfl (by decide) (by decide) ?_
      refine st_getf (ci := 9) (f := 6) (v := rV 4000003 21) (pc := 30) hC dX10_restore_30 fl_10_33 rfl rfl ?_
      refine st_iload_n (pc := 33) hC dX10_restore_33 rfl ?_
      obtain ⟨hb, h⟩ := h
      refine st_aaldT (pc := 34) hC dX10_restore_34 hb ?_
      obtain ⟨σ3, hq, h⟩ := h
      refine st_invV (As := [rV 17 (21 + 1 + 7 * (x1).toNat)]) (v := []) (S := []) (pc := 35) hC dX10_restore_35 cl_10_110 rfl rfl (Nat.le_of_ble_eq_true rfl) cr_X8_become hq ?_
      exact st_return (pc := 38) hC dX10_restore_38 h
  · exact st_invVx (As := [iV x1]) (S := []) (pc := 2) hC dX10_restore_2 cl_10_416 rfl rfl (Nat.le_of_ble_eq_true rfl) cr_X10_needImage hq h
theorem bX10_count_0 {C : Nat → List Vv → Sg → Rs → Sg → Prop} {X : Nat → List Vv → List Vv → Sg → Prop} {Xr : List Vv → Sg → Prop} {Xt : Nat → Sg → Prop} (hC : Clo C 10 cX10_count (some .int) X Xr Xt) {x1 : Int} {σ : Sg} (h : if x1 = 0 then (Xr [iV (σ 7 0)] σ) else (if x1 = 1 then (Xr [iV (σ 7 1)] σ) else (if x1 = 2 then (Xr [iV (σ 7 2)] σ) else (if x1 = 3 then (Xr [iV (σ 7 3)] σ) else (if x1 = 4 then (∃ v1 : Int, C MX8_manyInPurses [rV 17 7] σ (.inl [iV v1]) σ ∧ (Xr [iV v1] σ)) else (if x1 = 5 then (∃ v2 : Int, C MX8_manyInTreasury [rV 17 7] σ (.inl [iV v2]) σ ∧ (Xr [iV v2] σ)) else (if x1 = 6 then (∃ v3 : Int, C MX1_aboveOne [rV 11 8] σ (.inl [iV v3]) σ ∧ (Xr [iV v3] σ)) else (if x1 = 7 then (Xr [iV (σ 0 1)] σ) else (Xr [iV (-1)] σ))))))))) : X 0 [rV 19 0, iV x1] [] σ := by
  refine st_iload_n (pc := 0) hC dX10_count_0 rfl ?_
  refine st_tsw8 (t0 := 48) (t1 := 56) (t2 := 64) (t3 := 72) (t4 := 80) (t5 := 88) (t6 := 96) (t7 := 107) (td := 112) (pc := 1) hC dX10_count_1 (by decide) (by decide) (by decide) (by decide) (by decide) (by decide) (by decide) (by decide) (by decide) (ite_im h (fun h => ?_) (fun h => ite_im h (fun h => ?_) (fun h => ite_im h (fun h => ?_) (fun h => ite_im h (fun h => ?_) (fun h => ite_im h (fun h => ?_) (fun h => ite_im h (fun h => ?_) (fun h => ite_im h (fun h => ?_) (fun h => ite_im h (fun h => ?_) (fun h => ?_)))))))))
  · refine st_aload_n (pc := 48) hC dX10_count_48 rfl (by decide) (by decide) ?_
    refine st_getf (ci := 9) (f := 4) (v := rV 17 7) (pc := 49) hC dX10_count_49 fl_10_26 rfl rfl ?_
    refine st_getf (ci := 7) (f := 0) (v := iV (σ 7 0)) (pc := 52) hC dX10_count_52 fl_10_114 rfl rfl ?_
    exact st_ireturn (pc := 55) hC dX10_count_55 trivial h
  · refine st_aload_n (pc := 56) hC dX10_count_56 rfl (by decide) (by decide) ?_
    refine st_getf (ci := 9) (f := 4) (v := rV 17 7) (pc := 57) hC dX10_count_57 fl_10_26 rfl rfl ?_
    refine st_getf (ci := 7) (f := 1) (v := iV (σ 7 1)) (pc := 60) hC dX10_count_60 fl_10_117 rfl rfl ?_
    exact st_ireturn (pc := 63) hC dX10_count_63 trivial h
  · refine st_aload_n (pc := 64) hC dX10_count_64 rfl (by decide) (by decide) ?_
    refine st_getf (ci := 9) (f := 4) (v := rV 17 7) (pc := 65) hC dX10_count_65 fl_10_26 rfl rfl ?_
    refine st_getf (ci := 7) (f := 2) (v := iV (σ 7 2)) (pc := 68) hC dX10_count_68 fl_10_211 rfl rfl ?_
    exact st_ireturn (pc := 71) hC dX10_count_71 trivial h
  · refine st_aload_n (pc := 72) hC dX10_count_72 rfl (by decide) (by decide) ?_
    refine st_getf (ci := 9) (f := 4) (v := rV 17 7) (pc := 73) hC dX10_count_73 fl_10_26 rfl rfl ?_
    refine st_getf (ci := 7) (f := 3) (v := iV (σ 7 3)) (pc := 76) hC dX10_count_76 fl_10_305 rfl rfl ?_
    exact st_ireturn (pc := 79) hC dX10_count_79 trivial h
  · refine st_aload_n (pc := 80) hC dX10_count_80 rfl (by decide) (by decide) ?_
    refine st_getf (ci := 9) (f := 4) (v := rV 17 7) (pc := 81) hC dX10_count_81 fl_10_26 rfl rfl ?_
    obtain ⟨v1, hq, h⟩ := h
    refine st_invV (As := []) (v := [iV v1]) (S := []) (pc := 84) hC dX10_count_84 cl_10_421 rfl rfl (Nat.le_of_ble_eq_true rfl) cr_X8_manyInPurses hq ?_
    exact st_ireturn (pc := 87) hC dX10_count_87 trivial h
  · refine st_aload_n (pc := 88) hC dX10_count_88 rfl (by decide) (by decide) ?_
    refine st_getf (ci := 9) (f := 4) (v := rV 17 7) (pc := 89) hC dX10_count_89 fl_10_26 rfl rfl ?_
    obtain ⟨v2, hq, h⟩ := h
    refine st_invV (As := []) (v := [iV v2]) (S := []) (pc := 92) hC dX10_count_92 cl_10_424 rfl rfl (Nat.le_of_ble_eq_true rfl) cr_X8_manyInTreasury hq ?_
    exact st_ireturn (pc := 95) hC dX10_count_95 trivial h
  · refine st_aload_n (pc := 96) hC dX10_count_96 rfl (by decide) (by decide) ?_
    refine st_getf (ci := 9) (f := 4) (v := rV 17 7) (pc := 97) hC dX10_count_97 fl_10_26 rfl rfl ?_
    refine st_getf (ci := 7) (f := 4) (v := rV 11 8) (pc := 100) hC dX10_count_100 fl_10_378 rfl rfl ?_
    obtain ⟨v3, hq, h⟩ := h
    refine st_invV (As := []) (v := [iV v3]) (S := []) (pc := 103) hC dX10_count_103 cl_10_427 rfl rfl (Nat.le_of_ble_eq_true rfl) cr_X1_aboveOne hq ?_
    exact st_ireturn (pc := 106) hC dX10_count_106 trivial h
  · refine st_aload_n (pc := 107) hC dX10_count_107 rfl (by decide) (by decide) ?_
    refine st_getf (ci := 9) (f := 1) (v := iV (σ 0 1)) (pc := 108) hC dX10_count_108 fl_10_13 rfl rfl ?_
    exact st_ireturn (pc := 111) hC dX10_count_111 trivial h
  · refine st_iconst (pc := 112) hC dX10_count_112 (by decide) ?_
    exact st_ireturn (pc := 113) hC dX10_count_113 trivial h
theorem bX10_lay_0 {C : Nat → List Vv → Sg → Rs → Sg → Prop} {X : Nat → List Vv → List Vv → Sg → Prop} {Xr : List Vv → Sg → Prop} {Xt : Nat → Sg → Prop} (hC : Clo C 10 cX10_lay none X Xr Xt) {x1 : Int} {σ : Sg} (h : X 3 [rV 19 0, iV x1, iV 24] [] σ) : X 0 [rV 19 0, iV x1, uV] [] σ := by
  refine st_bipush (pc := 0) hC dX10_lay_0 (by decide) ?_
  refine st_istore_n (L2 := [rV 19 0, iV x1, iV 24]) (pc := 2) hC dX10_lay_2 (Nat.le_of_ble_eq_true rfl) rfl ?_
  exact h
theorem bX10_lay_3 {C : Nat → List Vv → Sg → Rs → Sg → Prop} {X : Nat → List Vv → List Vv → Sg → Prop} {Xr : List Vv → Sg → Prop} {Xt : Nat → Sg → Prop} (hC : Clo C 10 cX10_lay none X Xr Xt) {x1 x2 : Int} {σ : Sg} (h : if x2 < 0 then (Xr [] σ) else (if (σ 0 1) < 700 then ((0 ≤ (σ 0 1) ∧ (σ 0 1) < 700) ∧ (X 3 [rV 19 0, iV x1, iV (w32 (x2 + (-8)))] [] (upS (upS σ 6 ((σ 0 1)).toNat (iandI (iushrI x1 x2) 255)) 0 1 (w32 (((upS σ 6 ((σ 0 1)).toNat (iandI (iushrI x1 x2) 255)) 0 1) + 1))))) else (Xr [] σ))) : X 3 [rV 19 0, iV x1, iV x2] [] σ := by
  refine st_iload_n (pc := 3) hC dX10_lay_3 rfl ?_
  refine st_if_lt (tg := 49) (pc := 4) hC dX10_lay_4 (by decide) (ite_im h (fun h => ?_) (fun h => ?_))
  · exact st_return (pc := 49) hC dX10_lay_49 h
  · refine st_aload_n (pc := 7) hC dX10_lay_7 rfl (by decide) (by decide) ?_
    refine st_getf (ci := 9) (f := 1) (v := iV (σ 0 1)) (pc := 8) hC dX10_lay_8 fl_10_13 rfl rfl ?_
    refine st_sipush (pc := 11) hC dX10_lay_11 (by decide) ?_
    refine st_icmp_ge (tg := 49) (pc := 14) hC dX10_lay_14 (by decide) (ite_im h (fun h => ?_) (fun h => ?_))
    · refine st_aload_n (pc := 17) hC dX10_lay_17 rfl (by decide) (by decide) ?_
      refine st_getf (ci := 9) (f := 0) (v := rV 1000700 6) (pc := 18) hC dX10_lay_18 fl_10_9 rfl rfl ?_
      refine st_aload_n (pc := 21) hC dX10_lay_21 rfl (by decide) (by decide) ?_
      refine st_getf (ci := 9) (f := 1) (v := iV (σ 0 1)) (pc := 22) hC dX10_lay_22 fl_10_13 rfl rfl ?_
      refine st_iload_n (pc := 25) hC dX10_lay_25 rfl ?_
      refine st_iload_n (pc := 26) hC dX10_lay_26 rfl ?_
      refine st_iushr (pc := 27) hC dX10_lay_27 ?_
      refine st_sipush (pc := 28) hC dX10_lay_28 (by decide) ?_
      refine st_iand (pc := 31) hC dX10_lay_31 ?_
      obtain ⟨hb, h⟩ := h
      refine st_iast (n := 700) (pc := 32) hC dX10_lay_32 (by decide) hb ?_
      refine st_aload_n (pc := 33) hC dX10_lay_33 rfl (by decide) (by decide) ?_
      refine st_dupR (pc := 34) hC dX10_lay_34 (by decide) (by decide) ?_
      refine st_getf (ci := 9) (f := 1) (v := iV ((upS σ 6 ((σ 0 1)).toNat (iandI (iushrI x1 x2) 255)) 0 1)) (pc := 35) hC dX10_lay_35 fl_10_13 rfl rfl ?_
      refine st_iconst (pc := 38) hC dX10_lay_38 (by decide) ?_
      refine st_iadd (pc := 39) hC dX10_lay_39 ?_
      refine st_putfI (ci := 9) (f := 1) (pc := 40) hC dX10_lay_40 fl_10_13 rfl rfl ?_
      refine st_iinc (L2 := [rV 19 0, iV x1, iV (w32 (x2 + (-8)))]) (pc := 43) hC dX10_lay_43 rfl (Nat.le_of_ble_eq_true rfl) rfl ?_
      refine st_goto (tg := 3) (pc := 46) hC dX10_lay_46 (by decide) ?_
      exact h
    · exact st_return (pc := 49) hC dX10_lay_49 h
theorem bX10_payFault_0 {C : Nat → List Vv → Sg → Rs → Sg → Prop} {X : Nat → List Vv → List Vv → Sg → Prop} {Xr : List Vv → Sg → Prop} {Xt : Nat → Sg → Prop} (hC : Clo C 10 cX10_payFault (some .int) X Xr Xt) {x1 x2 x3 : Int} {σ : Sg} (h : ∃ v1 : Int, ∃ σ1 : Sg, C MX8_takeApart [rV 17 7, lV x3, rV 1000008 53] σ (.inl [iV v1]) σ1 ∧ (if v1 = 0 then (Xr [iV 1] σ1) else (∃ v2 : Int, C MX8_allHold [rV 17 7, iV (ishlI 1 x1), rV 1000008 53] σ1 (.inl [iV v2]) σ1 ∧ (if v2 = 0 then (Xr [iV 2] σ1) else (X 42 [rV 19 0, iV x1, iV x2, lV x3, uV, iV 0, iV 0] [] σ1))))) : X 0 [rV 19 0, iV x1, iV x2, lV x3, uV, uV, uV] [] σ := by
  refine st_aload_n (pc := 0) hC dX10_payFault_0 rfl (by decide) (by decide) ?_
  refine st_getf (ci := 9) (f := 4) (v := rV 17 7) (pc := 1) hC dX10_payFault_1 fl_10_26 rfl rfl ?_
  refine st_lload_n (pc := 4) hC dX10_payFault_4 rfl ?_
  refine st_aload_n (pc := 5) hC dX10_payFault_5 rfl (by decide) (by decide) ?_
  refine st_getf (ci := 9) (f := 9) (v := rV 1000008 53) (pc := 6) hC dX10_payFault_6 fl_10_47 rfl rfl ?_
  obtain ⟨v1, σ1, hq, h⟩ := h
  refine st_invV (As := [lV x3, rV 1000008 53]) (v := [iV v1]) (S := []) (pc := 9) hC dX10_payFault_9 cl_10_430 rfl rfl (Nat.le_of_ble_eq_true rfl) cr_X8_takeApart hq ?_
  refine st_if_ne (tg := 17) (pc := 12) hC dX10_payFault_12 (by decide) (ite_im h (fun h => ?_) (fun h => ?_))
  · refine st_iconst (pc := 15) hC dX10_payFault_15 (by decide) ?_
    exact st_ireturn (pc := 16) hC dX10_payFault_16 trivial h
  · refine st_aload_n (pc := 17) hC dX10_payFault_17 rfl (by decide) (by decide) ?_
    refine st_getf (ci := 9) (f := 4) (v := rV 17 7) (pc := 18) hC dX10_payFault_18 fl_10_26 rfl rfl ?_
    refine st_iconst (pc := 21) hC dX10_payFault_21 (by decide) ?_
    refine st_iload_n (pc := 22) hC dX10_payFault_22 rfl ?_
    refine st_ishl (pc := 23) hC dX10_payFault_23 ?_
    refine st_aload_n (pc := 24) hC dX10_payFault_24 rfl (by decide) (by decide) ?_
    refine st_getf (ci := 9) (f := 9) (v := rV 1000008 53) (pc := 25) hC dX10_payFault_25 fl_10_47 rfl rfl ?_
    obtain ⟨v2, hq, h⟩ := h
    refine st_invV (As := [iV (ishlI 1 x1), rV 1000008 53]) (v := [iV v2]) (S := []) (pc := 28) hC dX10_payFault_28 cl_10_294 rfl rfl (Nat.le_of_ble_eq_true rfl) cr_X8_allHold hq ?_
    refine st_if_ne (tg := 36) (pc := 31) hC dX10_payFault_31 (by decide) (ite_im h (fun h => ?_) (fun h => ?_))
    · refine st_iconst (pc := 34) hC dX10_payFault_34 (by decide) ?_
      exact st_ireturn (pc := 35) hC dX10_payFault_35 trivial h
    · refine st_iconst (pc := 36) hC dX10_payFault_36 (by decide) ?_
      refine st_istore (L2 := [rV 19 0, iV x1, iV x2, lV x3, uV, iV 0, uV]) (pc := 37) hC dX10_payFault_37 (Nat.le_of_ble_eq_true rfl) rfl ?_
      refine st_iconst (pc := 39) hC dX10_payFault_39 (by decide) ?_
      refine st_istore (L2 := [rV 19 0, iV x1, iV x2, lV x3, uV, iV 0, iV 0]) (pc := 40) hC dX10_payFault_40 (Nat.le_of_ble_eq_true rfl) rfl ?_
      exact h
theorem bX10_payFault_42 {C : Nat → List Vv → Sg → Rs → Sg → Prop} {X : Nat → List Vv → List Vv → Sg → Prop} {Xr : List Vv → Sg → Prop} {Xt : Nat → Sg → Prop} (hC : Clo C 10 cX10_payFault (some .int) X Xr Xt) {x1 x2 x3 x5 x6 : Int} {σ : Sg} (h : if x6 < 8 then ((0 ≤ x6 ∧ x6 < 8) ∧ (X 42 [rV 19 0, iV x1, iV x2, lV x3, uV, iV (w32 (x5 + (σ 53 (x6).toNat))), iV (w32 (x6 + 1))] [] σ)) else (∃ v1 : Int, C MX8_many [rV 17 7, iV x2] σ (.inl [iV v1]) σ ∧ (if (9 : Int) < (w32 (v1 + x5)) then (Xr [iV 3] σ) else (Xr [iV 0] σ)))) : X 42 [rV 19 0, iV x1, iV x2, lV x3, uV, iV x5, iV x6] [] σ := by
  refine st_iload (pc := 42) hC dX10_payFault_42 rfl ?_
  refine st_bipush (pc := 44) hC dX10_payFault_44 (by decide) ?_
  refine st_icmp_ge (tg := 67) (pc := 46) hC dX10_payFault_46 (by decide) (ite_im h (fun h => ?_) (fun h => ?_))
  · refine st_iload (pc := 49) hC dX10_payFault_49 rfl ?_
    refine st_aload_n (pc := 51) hC dX10_payFault_51 rfl (by decide) (by decide) ?_
    refine st_getf (ci := 9) (f := 9) (v := rV 1000008 53) (pc := 52) hC dX10_payFault_52 fl_10_47 rfl rfl ?_
    refine st_iload (pc := 55) hC dX10_payFault_55 rfl ?_
    obtain ⟨hb, h⟩ := h
    refine st_iald (n := 8) (pc := 57) hC dX10_payFault_57 (by decide) hb ?_
    refine st_iadd (pc := 58) hC dX10_payFault_58 ?_
    refine st_istore (L2 := [rV 19 0, iV x1, iV x2, lV x3, uV, iV (w32 (x5 + (σ 53 (x6).toNat))), iV x6]) (pc := 59) hC dX10_payFault_59 (Nat.le_of_ble_eq_true rfl) rfl ?_
    refine st_iinc (L2 := [rV 19 0, iV x1, iV x2, lV x3, uV, iV (w32 (x5 + (σ 53 (x6).toNat))), iV (w32 (x6 + 1))]) (pc := 61) hC dX10_payFault_61 rfl (Nat.le_of_ble_eq_true rfl) rfl ?_
    refine st_goto (tg := 42) (pc := 64) hC dX10_payFault_64 (by decide) ?_
    exact h
  · refine st_aload_n (pc := 67) hC dX10_payFault_67 rfl (by decide) (by decide) ?_
    refine st_getf (ci := 9) (f := 4) (v := rV 17 7) (pc := 68) hC dX10_payFault_68 fl_10_26 rfl rfl ?_
    refine st_iload_n (pc := 71) hC dX10_payFault_71 rfl ?_
    obtain ⟨v1, hq, h⟩ := h
    refine st_invV (As := [iV x2]) (v := [iV v1]) (S := []) (pc := 72) hC dX10_payFault_72 cl_10_143 rfl rfl (Nat.le_of_ble_eq_true rfl) cr_X8_many hq ?_
    refine st_iload (pc := 75) hC dX10_payFault_75 rfl ?_
    refine st_iadd (pc := 77) hC dX10_payFault_77 ?_
    refine st_bipush (pc := 78) hC dX10_payFault_78 (by decide) ?_
    refine st_icmp_le (tg := 87) (pc := 80) hC dX10_payFault_80 (by decide) (ite_im h (fun h => ?_) (fun h => ?_))
    · refine st_iconst (pc := 83) hC dX10_payFault_83 (by decide) ?_
      refine st_goto (tg := 88) (pc := 84) hC dX10_payFault_84 (by decide) ?_
      exact st_ireturn (pc := 88) hC dX10_payFault_88 trivial h
    · refine st_iconst (pc := 87) hC dX10_payFault_87 (by decide) ?_
      exact st_ireturn (pc := 88) hC dX10_payFault_88 trivial h
theorem bX10_yearStep_0 {C : Nat → List Vv → Sg → Rs → Sg → Prop} {X : Nat → List Vv → List Vv → Sg → Prop} {Xr : List Vv → Sg → Prop} {Xt : Nat → Sg → Prop} (hC : Clo C 10 cX10_yearStep (some .int) X Xr Xt) {σ : Sg} (h : ∃ v1 : Int, ∃ σ1 : Sg, C MX2_below [rV 12 65, iV (σ 7 2)] σ (.inl [iV v1]) σ1 ∧ (∃ v2 : Int, ∃ σ2 : Sg, C MX2_below [rV 12 65, iV 4] σ1 (.inl [iV v2]) σ2 ∧ (if v2 = 0 then (∃ v3 : Int, ∃ σ3 : Sg, C MX8_taxOne [rV 17 7, iV v1] σ2 (.inl [iV v3]) σ3 ∧ (if v3 = (-1) then (Xr [iV 0] σ3) else (Xr [iV (-1)] σ3))) else (∃ v4 : Int, ∃ σ4 : Sg, C MX2_below [rV 12 65, iV (σ2 7 1)] σ2 (.inl [iV v4]) σ4 ∧ (∃ v5 : Int, C MX8_many [rV 17 7, iV v1] σ4 (.inl [iV v5]) σ4 ∧ (if v5 < 9 then (∃ σ6 : Sg, C MX8_come [rV 17 7, iV v1, iV v4, iV 1] σ4 (.inl []) σ6 ∧ (Xr [iV 1] σ6)) else (Xr [iV 0] σ4))))))) : X 0 [rV 19 0, uV, uV] [] σ := by
  refine st_aload_n (pc := 0) hC dX10_yearStep_0 rfl (by decide) (by decide) ?_
  refine st_getf (ci := 9) (f := 14) (v := rV 12 65) (pc := 1) hC dX10_yearStep_1 fl_10_81 rfl rfl ?_
  refine st_aload_n (pc := 4) hC dX10_yearStep_4 rfl (by decide) (by decide) ?_
  refine st_getf (ci := 9) (f := 4) (v := rV 17 7) (pc := 5) hC dX10_yearStep_5 fl_10_26 rfl rfl ?_
  refine st_getf (ci := 7) (f := 2) (v := iV (σ 7 2)) (pc := 8) hC dX10_yearStep_8 fl_10_211 rfl rfl ?_
  obtain ⟨v1, σ1, hq, h⟩ := h
  refine st_invV (As := [iV (σ 7 2)]) (v := [iV v1]) (S := []) (pc := 11) hC dX10_yearStep_11 cl_10_434 rfl rfl (Nat.le_of_ble_eq_true rfl) cr_X2_below hq ?_
  refine st_istore_n (L2 := [rV 19 0, iV v1, uV]) (pc := 14) hC dX10_yearStep_14 (Nat.le_of_ble_eq_true rfl) rfl ?_
  refine st_aload_n (pc := 15) hC dX10_yearStep_15 rfl (by decide) (by decide) ?_
  refine st_getf (ci := 9) (f := 14) (v := rV 12 65) (pc := 16) hC dX10_yearStep_16 fl_10_81 rfl rfl ?_
  refine st_iconst (pc := 19) hC dX10_yearStep_19 (by decide) ?_
  obtain ⟨v2, σ2, hq, h⟩ := h
  refine st_invV (As := [iV 4]) (v := [iV v2]) (S := []) (pc := 20) hC dX10_yearStep_20 cl_10_434 rfl rfl (Nat.le_of_ble_eq_true rfl) cr_X2_below hq ?_
  refine st_if_ne (tg := 44) (pc := 23) hC dX10_yearStep_23 (by decide) (ite_im h (fun h => ?_) (fun h => ?_))
  · refine st_aload_n (pc := 26) hC dX10_yearStep_26 rfl (by decide) (by decide) ?_
    refine st_getf (ci := 9) (f := 4) (v := rV 17 7) (pc := 27) hC dX10_yearStep_27 fl_10_26 rfl rfl ?_
    refine st_iload_n (pc := 30) hC dX10_yearStep_30 rfl ?_
    obtain ⟨v3, σ3, hq, h⟩ := h
    refine st_invV (As := [iV v1]) (v := [iV v3]) (S := []) (pc := 31) hC dX10_yearStep_31 cl_10_182 rfl rfl (Nat.le_of_ble_eq_true rfl) cr_X8_taxOne hq ?_
    refine st_iconst (pc := 34) hC dX10_yearStep_34 (by decide) ?_
    refine st_icmp_ne (tg := 42) (pc := 35) hC dX10_yearStep_35 (by decide) (ite_im h (fun h => ?_) (fun h => ?_))
    · refine st_iconst (pc := 38) hC dX10_yearStep_38 (by decide) ?_
      refine st_goto (tg := 43) (pc := 39) hC dX10_yearStep_39 (by decide) ?_
      exact st_ireturn (pc := 43) hC dX10_yearStep_43 trivial h
    · refine st_iconst (pc := 42) hC dX10_yearStep_42 (by decide) ?_
      exact st_ireturn (pc := 43) hC dX10_yearStep_43 trivial h
  · refine st_aload_n (pc := 44) hC dX10_yearStep_44 rfl (by decide) (by decide) ?_
    refine st_getf (ci := 9) (f := 14) (v := rV 12 65) (pc := 45) hC dX10_yearStep_45 fl_10_81 rfl rfl ?_
    refine st_aload_n (pc := 48) hC dX10_yearStep_48 rfl (by decide) (by decide) ?_
    refine st_getf (ci := 9) (f := 4) (v := rV 17 7) (pc := 49) hC dX10_yearStep_49 fl_10_26 rfl rfl ?_
    refine st_getf (ci := 7) (f := 1) (v := iV (σ2 7 1)) (pc := 52) hC dX10_yearStep_52 fl_10_117 rfl rfl ?_
    obtain ⟨v4, σ4, hq, h⟩ := h
    refine st_invV (As := [iV (σ2 7 1)]) (v := [iV v4]) (S := []) (pc := 55) hC dX10_yearStep_55 cl_10_434 rfl rfl (Nat.le_of_ble_eq_true rfl) cr_X2_below hq ?_
    refine st_istore_n (L2 := [rV 19 0, iV v1, iV v4]) (pc := 58) hC dX10_yearStep_58 (Nat.le_of_ble_eq_true rfl) rfl ?_
    refine st_aload_n (pc := 59) hC dX10_yearStep_59 rfl (by decide) (by decide) ?_
    refine st_getf (ci := 9) (f := 4) (v := rV 17 7) (pc := 60) hC dX10_yearStep_60 fl_10_26 rfl rfl ?_
    refine st_iload_n (pc := 63) hC dX10_yearStep_63 rfl ?_
    obtain ⟨v5, hq, h⟩ := h
    refine st_invV (As := [iV v1]) (v := [iV v5]) (S := []) (pc := 64) hC dX10_yearStep_64 cl_10_143 rfl rfl (Nat.le_of_ble_eq_true rfl) cr_X8_many hq ?_
    refine st_bipush (pc := 67) hC dX10_yearStep_67 (by decide) ?_
    refine st_icmp_lt (tg := 74) (pc := 69) hC dX10_yearStep_69 (by decide) (ite_im h (fun h => ?_) (fun h => ?_))
    · refine st_aload_n (pc := 74) hC dX10_yearStep_74 rfl (by decide) (by decide) ?_
      refine st_getf (ci := 9) (f := 4) (v := rV 17 7) (pc := 75) hC dX10_yearStep_75 fl_10_26 rfl rfl ?_
      refine st_iload_n (pc := 78) hC dX10_yearStep_78 rfl ?_
      refine st_iload_n (pc := 79) hC dX10_yearStep_79 rfl ?_
      refine st_iconst (pc := 80) hC dX10_yearStep_80 (by decide) ?_
      obtain ⟨σ6, hq, h⟩ := h
      refine st_invV (As := [iV v1, iV v4, iV 1]) (v := []) (S := []) (pc := 81) hC dX10_yearStep_81 cl_10_192 rfl rfl (Nat.le_of_ble_eq_true rfl) cr_X8_come hq ?_
      refine st_iconst (pc := 84) hC dX10_yearStep_84 (by decide) ?_
      exact st_ireturn (pc := 85) hC dX10_yearStep_85 trivial h
    · refine st_iconst (pc := 72) hC dX10_yearStep_72 (by decide) ?_
      exact st_ireturn (pc := 73) hC dX10_yearStep_73 trivial h
theorem bX10_needPerson_0 {C : Nat → List Vv → Sg → Rs → Sg → Prop} {X : Nat → List Vv → List Vv → Sg → Prop} {Xr : List Vv → Sg → Prop} {Xt : Nat → Sg → Prop} (hC : Clo C 10 cX10_needPerson none X Xr Xt) {x1 : Int} {σ : Sg} (h : if x1 < 0 then (Xt 1 σ) else (if x1 < (σ 7 2) then (Xr [] σ) else (Xt 1 σ))) : X 0 [rV 19 0, iV x1] [] σ := by
  refine st_iload_n (pc := 0) hC dX10_needPerson_0 rfl ?_
  refine st_if_lt (tg := 15) (pc := 1) hC dX10_needPerson_1 (by decide) (ite_im h (fun h => ?_) (fun h => ?_))
  · exact st_throww (pc := 15) (E := 1) (k := 437) hC (by decide) dX10_needPerson_15 dX10_needPerson_18 rfl dX10_needPerson_19 dX10_needPerson_22 dX10_needPerson_25 h
  · refine st_iload_n (pc := 4) hC dX10_needPerson_4 rfl ?_
    refine st_aload_n (pc := 5) hC dX10_needPerson_5 rfl (by decide) (by decide) ?_
    refine st_getf (ci := 9) (f := 4) (v := rV 17 7) (pc := 6) hC dX10_needPerson_6 fl_10_26 rfl rfl ?_
    refine st_getf (ci := 7) (f := 2) (v := iV (σ 7 2)) (pc := 9) hC dX10_needPerson_9 fl_10_211 rfl rfl ?_
    refine st_icmp_lt (tg := 26) (pc := 12) hC dX10_needPerson_12 (by decide) (ite_im h (fun h => ?_) (fun h => ?_))
    · exact st_return (pc := 26) hC dX10_needPerson_26 h
    · exact st_throww (pc := 15) (E := 1) (k := 437) hC (by decide) dX10_needPerson_15 dX10_needPerson_18 rfl dX10_needPerson_19 dX10_needPerson_22 dX10_needPerson_25 h
theorem bX10_needTwo_0 {C : Nat → List Vv → Sg → Rs → Sg → Prop} {X : Nat → List Vv → List Vv → Sg → Prop} {Xr : List Vv → Sg → Prop} {Xt : Nat → Sg → Prop} (hC : Clo C 10 cX10_needTwo none X Xr Xt) {x1 x2 : Int} {σ : Sg} (h : (C MX10_needPerson [rV 19 0, iV x1] σ (.inl []) σ ∧ ((C MX10_needPerson [rV 19 0, iV x2] σ (.inl []) σ ∧ (if x1 = x2 then (Xt 2 σ) else (Xr [] σ))) ∨ (∃ E4 : Nat, C MX10_needPerson [rV 19 0, iV x2] σ (.inr E4) σ ∧ Xt E4 σ))) ∨ (∃ E2 : Nat, C MX10_needPerson [rV 19 0, iV x1] σ (.inr E2) σ ∧ Xt E2 σ)) : X 0 [rV 19 0, iV x1, iV x2] [] σ := by
  refine st_aload_n (pc := 0) hC dX10_needTwo_0 rfl (by decide) (by decide) ?_
  refine st_iload_n (pc := 1) hC dX10_needTwo_1 rfl ?_
  rcases h with ⟨hq, h⟩ | ⟨E2, hq, h⟩
  · refine st_invV (As := [iV x1]) (v := []) (S := []) (pc := 2) hC dX10_needTwo_2 cl_10_129 rfl rfl (Nat.le_of_ble_eq_true rfl) cr_X10_needPerson hq ?_
    refine st_aload_n (pc := 5) hC dX10_needTwo_5 rfl (by decide) (by decide) ?_
    refine st_iload_n (pc := 6) hC dX10_needTwo_6 rfl ?_
    rcases h with ⟨hq, h⟩ | ⟨E4, hq, h⟩
    · refine st_invV (As := [iV x2]) (v := []) (S := []) (pc := 7) hC dX10_needTwo_7 cl_10_129 rfl rfl (Nat.le_of_ble_eq_true rfl) cr_X10_needPerson hq ?_
      refine st_iload_n (pc := 10) hC dX10_needTwo_10 rfl ?_
      refine st_iload_n (pc := 11) hC dX10_needTwo_11 rfl ?_
      refine st_icmp_ne (tg := 26) (pc := 12) hC dX10_needTwo_12 (by decide) (ite_im h (fun h => ?_) (fun h => ?_))
      · exact st_throww (pc := 15) (E := 2) (k := 439) hC (by decide) dX10_needTwo_15 dX10_needTwo_18 rfl dX10_needTwo_19 dX10_needTwo_22 dX10_needTwo_25 h
      · exact st_return (pc := 26) hC dX10_needTwo_26 h
    · exact st_invVx (As := [iV x2]) (S := []) (pc := 7) hC dX10_needTwo_7 cl_10_129 rfl rfl (Nat.le_of_ble_eq_true rfl) cr_X10_needPerson hq h
  · exact st_invVx (As := [iV x1]) (S := []) (pc := 2) hC dX10_needTwo_2 cl_10_129 rfl rfl (Nat.le_of_ble_eq_true rfl) cr_X10_needPerson hq h
theorem bX10_needChange_0 {C : Nat → List Vv → Sg → Rs → Sg → Prop} {X : Nat → List Vv → List Vv → Sg → Prop} {Xr : List Vv → Sg → Prop} {Xt : Nat → Sg → Prop} (hC : Clo C 10 cX10_needChange none X Xr Xt) {x1 : Int} {σ : Sg} (h : if x1 < 0 then (Xt 1 σ) else (if x1 < (σ 7 3) then (Xr [] σ) else (Xt 1 σ))) : X 0 [rV 19 0, iV x1] [] σ := by
  refine st_iload_n (pc := 0) hC dX10_needChange_0 rfl ?_
  refine st_if_lt (tg := 15) (pc := 1) hC dX10_needChange_1 (by decide) (ite_im h (fun h => ?_) (fun h => ?_))
  · exact st_throww (pc := 15) (E := 1) (k := 441) hC (by decide) dX10_needChange_15 dX10_needChange_18 rfl dX10_needChange_19 dX10_needChange_22 dX10_needChange_25 h
  · refine st_iload_n (pc := 4) hC dX10_needChange_4 rfl ?_
    refine st_aload_n (pc := 5) hC dX10_needChange_5 rfl (by decide) (by decide) ?_
    refine st_getf (ci := 9) (f := 4) (v := rV 17 7) (pc := 6) hC dX10_needChange_6 fl_10_26 rfl rfl ?_
    refine st_getf (ci := 7) (f := 3) (v := iV (σ 7 3)) (pc := 9) hC dX10_needChange_9 fl_10_305 rfl rfl ?_
    refine st_icmp_lt (tg := 26) (pc := 12) hC dX10_needChange_12 (by decide) (ite_im h (fun h => ?_) (fun h => ?_))
    · exact st_return (pc := 26) hC dX10_needChange_26 h
    · exact st_throww (pc := 15) (E := 1) (k := 441) hC (by decide) dX10_needChange_15 dX10_needChange_18 rfl dX10_needChange_19 dX10_needChange_22 dX10_needChange_25 h
theorem bX10_needWhat_0 {C : Nat → List Vv → Sg → Rs → Sg → Prop} {X : Nat → List Vv → List Vv → Sg → Prop} {Xr : List Vv → Sg → Prop} {Xt : Nat → Sg → Prop} (hC : Clo C 10 cX10_needWhat none X Xr Xt) {x1 x2 : Int} {σ : Sg} (h : if x1 < 0 then (Xt 2 σ) else (if x2 < x1 then (Xt 2 σ) else (Xr [] σ))) : X 0 [rV 19 0, iV x1, iV x2] [] σ := by
  refine st_iload_n (pc := 0) hC dX10_needWhat_0 rfl ?_
  refine st_if_lt (tg := 9) (pc := 1) hC dX10_needWhat_1 (by decide) (ite_im h (fun h => ?_) (fun h => ?_))
  · exact st_throww (pc := 9) (E := 2) (k := 443) hC (by decide) dX10_needWhat_9 dX10_needWhat_12 rfl dX10_needWhat_13 dX10_needWhat_16 dX10_needWhat_19 h
  · refine st_iload_n (pc := 4) hC dX10_needWhat_4 rfl ?_
    refine st_iload_n (pc := 5) hC dX10_needWhat_5 rfl ?_
    refine st_icmp_le (tg := 20) (pc := 6) hC dX10_needWhat_6 (by decide) (ite_im h (fun h => ?_) (fun h => ?_))
    · exact st_throww (pc := 9) (E := 2) (k := 443) hC (by decide) dX10_needWhat_9 dX10_needWhat_12 rfl dX10_needWhat_13 dX10_needWhat_16 dX10_needWhat_19 h
    · exact st_return (pc := 20) hC dX10_needWhat_20 h
theorem bX10_needSet_0 {C : Nat → List Vv → Sg → Rs → Sg → Prop} {X : Nat → List Vv → List Vv → Sg → Prop} {Xr : List Vv → Sg → Prop} {Xt : Nat → Sg → Prop} (hC : Clo C 10 cX10_needSet none X Xr Xt) {x1 : Int} {σ : Sg} (h : if x1 < 0 then (Xt 2 σ) else (if x1 < (ishlI 1 (σ 7 2)) then (Xr [] σ) else (Xt 2 σ))) : X 0 [rV 19 0, iV x1] [] σ := by
  refine st_iload_n (pc := 0) hC dX10_needSet_0 rfl ?_
  refine st_if_lt (tg := 17) (pc := 1) hC dX10_needSet_1 (by decide) (ite_im h (fun h => ?_) (fun h => ?_))
  · exact st_throww (pc := 17) (E := 2) (k := 445) hC (by decide) dX10_needSet_17 dX10_needSet_20 rfl dX10_needSet_21 dX10_needSet_24 dX10_needSet_27 h
  · refine st_iload_n (pc := 4) hC dX10_needSet_4 rfl ?_
    refine st_iconst (pc := 5) hC dX10_needSet_5 (by decide) ?_
    refine st_aload_n (pc := 6) hC dX10_needSet_6 rfl (by decide) (by decide) ?_
    refine st_getf (ci := 9) (f := 4) (v := rV 17 7) (pc := 7) hC dX10_needSet_7 fl_10_26 rfl rfl ?_
    refine st_getf (ci := 7) (f := 2) (v := iV (σ 7 2)) (pc := 10) hC dX10_needSet_10 fl_10_211 rfl rfl ?_
    refine st_ishl (pc := 13) hC dX10_needSet_13 ?_
    refine st_icmp_lt (tg := 28) (pc := 14) hC dX10_needSet_14 (by decide) (ite_im h (fun h => ?_) (fun h => ?_))
    · exact st_return (pc := 28) hC dX10_needSet_28 h
    · exact st_throww (pc := 17) (E := 2) (k := 445) hC (by decide) dX10_needSet_17 dX10_needSet_20 rfl dX10_needSet_21 dX10_needSet_24 dX10_needSet_27 h
theorem bX10_needPrice_0 {C : Nat → List Vv → Sg → Rs → Sg → Prop} {X : Nat → List Vv → List Vv → Sg → Prop} {Xr : List Vv → Sg → Prop} {Xt : Nat → Sg → Prop} (hC : Clo C 10 cX10_needPrice none X Xr Xt) {x1 : Int} {σ : Sg} (h : ∃ v1 : Int, ∃ σ1 : Sg, C MX8_takeApart [rV 17 7, lV x1, rV 1000008 53] σ (.inl [iV v1]) σ1 ∧ (if v1 = 0 then (Xt 2 σ1) else (Xr [] σ1))) : X 0 [rV 19 0, lV x1, uV] [] σ := by
  refine st_aload_n (pc := 0) hC dX10_needPrice_0 rfl (by decide) (by decide) ?_
  refine st_getf (ci := 9) (f := 4) (v := rV 17 7) (pc := 1) hC dX10_needPrice_1 fl_10_26 rfl rfl ?_
  refine st_lload_n (pc := 4) hC dX10_needPrice_4 rfl ?_
  refine st_aload_n (pc := 5) hC dX10_needPrice_5 rfl (by decide) (by decide) ?_
  refine st_getf (ci := 9) (f := 9) (v := rV 1000008 53) (pc := 6) hC dX10_needPrice_6 fl_10_47 rfl rfl ?_
  obtain ⟨v1, σ1, hq, h⟩ := h
  refine st_invV (As := [lV x1, rV 1000008 53]) (v := [iV v1]) (S := []) (pc := 9) hC dX10_needPrice_9 cl_10_430 rfl rfl (Nat.le_of_ble_eq_true rfl) cr_X8_takeApart hq ?_
  refine st_if_ne (tg := 26) (pc := 12) hC dX10_needPrice_12 (by decide) (ite_im h (fun h => ?_) (fun h => ?_))
  · exact st_throww (pc := 15) (E := 2) (k := 447) hC (by decide) dX10_needPrice_15 dX10_needPrice_18 rfl dX10_needPrice_19 dX10_needPrice_22 dX10_needPrice_25 h
  · exact st_return (pc := 26) hC dX10_needPrice_26 h
theorem bX10_needNumber_0 {C : Nat → List Vv → Sg → Rs → Sg → Prop} {X : Nat → List Vv → List Vv → Sg → Prop} {Xr : List Vv → Sg → Prop} {Xt : Nat → Sg → Prop} (hC : Clo C 10 cX10_needNumber none X Xr Xt) {x1 x2 : Int} {σ : Sg} (h : if x1 < x2 then (Xt 2 σ) else (if (1000000000 : Int) < x1 then (Xt 2 σ) else (Xr [] σ))) : X 0 [rV 19 0, iV x1, iV x2] [] σ := by
  refine st_iload_n (pc := 0) hC dX10_needNumber_0 rfl ?_
  refine st_iload_n (pc := 1) hC dX10_needNumber_1 rfl ?_
  refine st_icmp_lt (tg := 12) (pc := 2) hC dX10_needNumber_2 (by decide) (ite_im h (fun h => ?_) (fun h => ?_))
  · exact st_throww (pc := 12) (E := 2) (k := 450) hC (by decide) dX10_needNumber_12 dX10_needNumber_15 rfl dX10_needNumber_16 dX10_needNumber_19 dX10_needNumber_22 h
  · refine st_iload_n (pc := 5) hC dX10_needNumber_5 rfl ?_
    refine st_ldcw (pc := 6) hC dX10_needNumber_6 rfl ?_
    refine st_icmp_le (tg := 23) (pc := 9) hC dX10_needNumber_9 (by decide) (ite_im h (fun h => ?_) (fun h => ?_))
    · exact st_throww (pc := 12) (E := 2) (k := 450) hC (by decide) dX10_needNumber_12 dX10_needNumber_15 rfl dX10_needNumber_16 dX10_needNumber_19 dX10_needNumber_22 h
    · exact st_return (pc := 23) hC dX10_needNumber_23 h
theorem bX10_needSmallNumber_0 {C : Nat → List Vv → Sg → Rs → Sg → Prop} {X : Nat → List Vv → List Vv → Sg → Prop} {Xr : List Vv → Sg → Prop} {Xt : Nat → Sg → Prop} (hC : Clo C 10 cX10_needSmallNumber none X Xr Xt) {x1 : Int} {σ : Sg} (h : if x1 < 1 then (Xt 2 σ) else (if (5000 : Int) < x1 then (Xt 2 σ) else (Xr [] σ))) : X 0 [rV 19 0, iV x1] [] σ := by
  refine st_iload_n (pc := 0) hC dX10_needSmallNumber_0 rfl ?_
  refine st_iconst (pc := 1) hC dX10_needSmallNumber_1 (by decide) ?_
  refine st_icmp_lt (tg := 12) (pc := 2) hC dX10_needSmallNumber_2 (by decide) (ite_im h (fun h => ?_) (fun h => ?_))
  · exact st_throww (pc := 12) (E := 2) (k := 452) hC (by decide) dX10_needSmallNumber_12 dX10_needSmallNumber_15 rfl dX10_needSmallNumber_16 dX10_needSmallNumber_19 dX10_needSmallNumber_22 h
  · refine st_iload_n (pc := 5) hC dX10_needSmallNumber_5 rfl ?_
    refine st_sipush (pc := 6) hC dX10_needSmallNumber_6 (by decide) ?_
    refine st_icmp_le (tg := 23) (pc := 9) hC dX10_needSmallNumber_9 (by decide) (ite_im h (fun h => ?_) (fun h => ?_))
    · exact st_throww (pc := 12) (E := 2) (k := 452) hC (by decide) dX10_needSmallNumber_12 dX10_needSmallNumber_15 rfl dX10_needSmallNumber_16 dX10_needSmallNumber_19 dX10_needSmallNumber_22 h
    · exact st_return (pc := 23) hC dX10_needSmallNumber_23 h
theorem bX10_needSmallPrime_0 {C : Nat → List Vv → Sg → Rs → Sg → Prop} {X : Nat → List Vv → List Vv → Sg → Prop} {Xr : List Vv → Sg → Prop} {Xt : Nat → Sg → Prop} (hC : Clo C 10 cX10_needSmallPrime none X Xr Xt) {x1 : Int} {σ : Sg} (h : ∃ v1 : Int, C MX3_isSmallPrime [iV x1] σ (.inl [iV v1]) σ ∧ (if v1 = 0 then (Xt 2 σ) else (Xr [] σ))) : X 0 [rV 19 0, iV x1] [] σ := by
  refine st_iload_n (pc := 0) hC dX10_needSmallPrime_0 rfl ?_
  obtain ⟨v1, hq, h⟩ := h
  refine st_invS (As := [iV x1]) (v := [iV v1]) (S := []) (pc := 1) hC dX10_needSmallPrime_1 cl_10_454 rfl rfl (Nat.le_of_ble_eq_true rfl) hq ?_
  refine st_if_ne (tg := 18) (pc := 4) hC dX10_needSmallPrime_4 (by decide) (ite_im h (fun h => ?_) (fun h => ?_))
  · exact st_throww (pc := 7) (E := 2) (k := 457) hC (by decide) dX10_needSmallPrime_7 dX10_needSmallPrime_10 rfl dX10_needSmallPrime_11 dX10_needSmallPrime_14 dX10_needSmallPrime_17 h
  · exact st_return (pc := 18) hC dX10_needSmallPrime_18 h
theorem bX10_needImage_0 {C : Nat → List Vv → Sg → Rs → Sg → Prop} {X : Nat → List Vv → List Vv → Sg → Prop} {Xr : List Vv → Sg → Prop} {Xt : Nat → Sg → Prop} (hC : Clo C 10 cX10_needImage none X Xr Xt) {x1 : Int} {σ : Sg} (h : if x1 < 0 then (Xt 1 σ) else (if x1 < 3 then (Xr [] σ) else (Xt 1 σ))) : X 0 [rV 19 0, iV x1] [] σ := by
  refine st_iload_n (pc := 0) hC dX10_needImage_0 rfl ?_
  refine st_if_lt (tg := 9) (pc := 1) hC dX10_needImage_1 (by decide) (ite_im h (fun h => ?_) (fun h => ?_))
  · exact st_throww (pc := 9) (E := 1) (k := 459) hC (by decide) dX10_needImage_9 dX10_needImage_12 rfl dX10_needImage_13 dX10_needImage_16 dX10_needImage_19 h
  · refine st_iload_n (pc := 4) hC dX10_needImage_4 rfl ?_
    refine st_iconst (pc := 5) hC dX10_needImage_5 (by decide) ?_
    refine st_icmp_lt (tg := 20) (pc := 6) hC dX10_needImage_6 (by decide) (ite_im h (fun h => ?_) (fun h => ?_))
    · exact st_return (pc := 20) hC dX10_needImage_20 h
    · exact st_throww (pc := 9) (E := 1) (k := 459) hC (by decide) dX10_needImage_9 dX10_needImage_12 rfl dX10_needImage_13 dX10_needImage_16 dX10_needImage_19 h
theorem bX10_needTray_0 {C : Nat → List Vv → Sg → Rs → Sg → Prop} {X : Nat → List Vv → List Vv → Sg → Prop} {Xr : List Vv → Sg → Prop} {Xt : Nat → Sg → Prop} (hC : Clo C 10 cX10_needTray (some (.object "PrimeCoins$Tray")) X Xr Xt) {x1 : Int} {σ : Sg} (h : if x1 < 0 then (Xt 1 σ) else (if x1 < 4 then ((0 ≤ x1 ∧ x1 < 4) ∧ (if (σ (44 + 1 + 2 * (x1).toNat) 0) = (-1) then (Xt 3 σ) else ((0 ≤ x1 ∧ x1 < 4) ∧ (Xr [rV 18 (44 + 1 + 2 * (x1).toNat)] σ)))) else (Xt 1 σ))) : X 0 [rV 19 0, iV x1] [] σ := by
  refine st_iload_n (pc := 0) hC dX10_needTray_0 rfl ?_
  refine st_if_lt (tg := 9) (pc := 1) hC dX10_needTray_1 (by decide) (ite_im h (fun h => ?_) (fun h => ?_))
  · exact st_throww (pc := 9) (E := 1) (k := 397) hC (by decide) dX10_needTray_9 dX10_needTray_12 rfl dX10_needTray_13 dX10_needTray_16 dX10_needTray_19 h
  · refine st_iload_n (pc := 4) hC dX10_needTray_4 rfl ?_
    refine st_iconst (pc := 5) hC dX10_needTray_5 (by decide) ?_
    refine st_icmp_lt (tg := 20) (pc := 6) hC dX10_needTray_6 (by decide) (ite_im h (fun h => ?_) (fun h => ?_))
    · refine st_aload_n (pc := 20) hC dX10_needTray_20 rfl (by decide) (by decide) ?_
      refine st_getf (ci := 9) (f := 8) (v := rV 5000004 44) (pc := 21) hC dX10_needTray_21 fl_10_43 rfl rfl ?_
      refine st_iload_n (pc := 24) hC dX10_needTray_24 rfl ?_
      obtain ⟨hb, h⟩ := h
      refine st_aaldR (pc := 25) hC dX10_needTray_25 hb ?_
      refine st_getf (ci := 8) (f := 0) (v := iV (σ (44 + 1 + 2 * (x1).toNat) 0)) (pc := 26) hC dX10_needTray_26 fl_10_461 rfl rfl ?_
      refine st_iconst (pc := 29) hC dX10_needTray_29 (by decide) ?_
      refine st_icmp_ne (tg := 44) (pc := 30) hC dX10_needTray_30 (by decide) (ite_im h (fun h => ?_) (fun h => ?_))
      · exact st_throww (pc := 33) (E := 3) (k := 464) hC (by decide) dX10_needTray_33 dX10_needTray_36 rfl dX10_needTray_37 dX10_needTray_40 dX10_needTray_43 h
      · refine st_aload_n (pc := 44) hC dX10_needTray_44 rfl (by decide) (by decide) ?_
        refine st_getf (ci := 9) (f := 8) (v := rV 5000004 44) (pc := 45) hC dX10_needTray_45 fl_10_43 rfl rfl ?_
        refine st_iload_n (pc := 48) hC dX10_needTray_48 rfl ?_
        obtain ⟨hb, h⟩ := h
        refine st_aaldR (pc := 49) hC dX10_needTray_49 hb ?_
        exact st_areturn (pc := 50) hC dX10_needTray_50 (by decide) (by decide) h
    · exact st_throww (pc := 9) (E := 1) (k := 397) hC (by decide) dX10_needTray_9 dX10_needTray_12 rfl dX10_needTray_13 dX10_needTray_16 dX10_needTray_19 h
