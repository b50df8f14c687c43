theorem bX8_empty_0 {C : Nat → List Vv → Sg → Rs → Sg → Prop} {X : Nat → List Vv → List Vv → Sg → Prop} {Xr : List Vv → Sg → Prop} {Xt : Nat → Sg → Prop} (hC : Clo C 8 cX8_empty none X Xr Xt) {t0 : Nat} {σ : Sg} (h : ∃ σ1 : Sg, C MX1_forgive [rV 11 (t0 + 1)] (upS (upS (upS (upS σ t0 0 0) t0 1 0) t0 2 0) t0 3 0) (.inl []) σ1 ∧ (∃ σ2 : Sg, C MJ7_fill_53178 [rV 1000008 (t0 + 3), iV 0] σ1 (.inl []) σ2 ∧ (∃ σ3 : Sg, C MJ7_fill_53178 [rV 1000040 (t0 + 4), iV 0] σ2 (.inl []) σ3 ∧ (∃ σ4 : Sg, C MJ7_fill_53178 [rV 1000096 (t0 + 5), iV 0] σ3 (.inl []) σ4 ∧ (∃ σ5 : Sg, C MJ7_fill_53178 [rV 1000008 (t0 + 6), iV 0] σ4 (.inl []) σ5 ∧ (Xr [] σ5)))))) : X 0 [rV 17 t0] [] σ := by
  refine st_aload_n (pc := 0) hC dX8_empty_0 rfl (by decide) (by decide) ?_
  refine st_iconst (pc := 1) hC dX8_empty_1 (by decide) ?_
  refine st_putfI (ci := 7) (f := 0) (pc := 2) hC dX8_empty_2 fl_8_9 rfl rfl ?_
  refine st_aload_n (pc := 5) hC dX8_empty_5 rfl (by decide) (by decide) ?_
  refine st_iconst (pc := 6) hC dX8_empty_6 (by decide) ?_
  refine st_putfI (ci := 7) (f := 1) (pc := 7) hC dX8_empty_7 fl_8_15 rfl rfl ?_
  refine st_aload_n (pc := 10) hC dX8_empty_10 rfl (by decide) (by decide) ?_
  refine st_iconst (pc := 11) hC dX8_empty_11 (by decide) ?_
  refine st_putfI (ci := 7) (f := 2) (pc := 12) hC dX8_empty_12 fl_8_18 rfl rfl ?_
  refine st_aload_n (pc := 15) hC dX8_empty_15 rfl (by decide) (by decide) ?_
  refine st_iconst (pc := 16) hC dX8_empty_16 (by decide) ?_
  refine st_putfI (ci := 7) (f := 3) (pc := 17) hC dX8_empty_17 fl_8_21 rfl rfl ?_
  refine st_aload_n (pc := 20) hC dX8_empty_20 rfl (by decide) (by decide) ?_
  refine st_getf (ci := 7) (f := 4) (v := rV 11 (t0 + 1)) (pc := 21) hC dX8_empty_21 fl_8_27 rfl rfl ?_
  obtain ⟨σ1, hq, h⟩ := h
  refine st_invV (As := []) (v := []) (S := []) (pc := 24) hC dX8_empty_24 cl_8_44 rfl rfl (Nat.le_of_ble_eq_true rfl) cr_X1_forgive hq ?_
  refine st_aload_n (pc := 27) hC dX8_empty_27 rfl (by decide) (by decide) ?_
  refine st_getf (ci := 7) (f := 5) (v := rV 1000008 (t0 + 3)) (pc := 28) hC dX8_empty_28 fl_8_31 rfl rfl ?_
  refine st_iconst (pc := 31) hC dX8_empty_31 (by decide) ?_
  obtain ⟨σ2, hq, h⟩ := h
  refine st_invS (As := [rV 1000008 (t0 + 3), iV 0]) (v := []) (S := []) (pc := 32) hC dX8_empty_32 cl_8_47 rfl rfl (Nat.le_of_ble_eq_true rfl) hq ?_
  refine st_aload_n (pc := 35) hC dX8_empty_35 rfl (by decide) (by decide) ?_
  refine st_getf (ci := 7) (f := 6) (v := rV 1000040 (t0 + 4)) (pc := 36) hC dX8_empty_36 fl_8_35 rfl rfl ?_
  refine st_iconst (pc := 39) hC dX8_empty_39 (by decide) ?_
  obtain ⟨σ3, hq, h⟩ := h
  refine st_invS (As := [rV 1000040 (t0 + 4), iV 0]) (v := []) (S := []) (pc := 40) hC dX8_empty_40 cl_8_47 rfl rfl (Nat.le_of_ble_eq_true rfl) hq ?_
  refine st_aload_n (pc := 43) hC dX8_empty_43 rfl (by decide) (by decide) ?_
  refine st_getf (ci := 7) (f := 7) (v := rV 1000096 (t0 + 5)) (pc := 44) hC dX8_empty_44 fl_8_38 rfl rfl ?_
  refine st_iconst (pc := 47) hC dX8_empty_47 (by decide) ?_
  obtain ⟨σ4, hq, h⟩ := h
  refine st_invS (As := [rV 1000096 (t0 + 5), iV 0]) (v := []) (S := []) (pc := 48) hC dX8_empty_48 cl_8_47 rfl rfl (Nat.le_of_ble_eq_true rfl) hq ?_
  refine st_aload_n (pc := 51) hC dX8_empty_51 rfl (by decide) (by decide) ?_
  refine st_getf (ci := 7) (f := 8) (v := rV 1000008 (t0 + 6)) (pc := 52) hC dX8_empty_52 fl_8_41 rfl rfl ?_
  refine st_iconst (pc := 55) hC dX8_empty_55 (by decide) ?_
  obtain ⟨σ5, hq, h⟩ := h
  refine st_invS (As := [rV 1000008 (t0 + 6), iV 0]) (v := []) (S := []) (pc := 56) hC dX8_empty_56 cl_8_47 rfl rfl (Nat.le_of_ble_eq_true rfl) hq ?_
  exact st_return (pc := 59) hC dX8_empty_59 h
theorem bX8_become_0 {C : Nat → List Vv → Sg → Rs → Sg → Prop} {X : Nat → List Vv → List Vv → Sg → Prop} {Xr : List Vv → Sg → Prop} {Xt : Nat → Sg → Prop} (hC : Clo C 8 cX8_become none X Xr Xt) {t0 t1 : Nat} {σ : Sg} (h : ∃ σ1 : Sg, C MX1_takeOver [rV 11 (t0 + 1), rV 11 (t1 + 1)] (upS (upS (upS (upS σ t0 0 (σ t1 0)) t0 1 ((upS σ t0 0 (σ t1 0)) t1 1)) t0 2 ((upS (upS σ t0 0 (σ t1 0)) t0 1 ((upS σ t0 0 (σ t1 0)) t1 1)) t1 2)) t0 3 ((upS (upS (upS σ t0 0 (σ t1 0)) t0 1 ((upS σ t0 0 (σ t1 0)) t1 1)) t0 2 ((upS (upS σ t0 0 (σ t1 0)) t0 1 ((upS σ t0 0 (σ t1 0)) t1 1)) t1 2)) t1 3)) (.inl []) σ1 ∧ (Xr [] (cpS (cpS (cpS (cpS σ1 (t1 + 3) 0 (t0 + 3) 0 8) (t1 + 4) 0 (t0 + 4) 0 40) (t1 + 5) 0 (t0 + 5) 0 96) (t1 + 6) 0 (t0 + 6) 0 8))) : X 0 [rV 17 t0, rV 17 t1] [] σ := by
  refine st_aload_n (pc := 0) hC dX8_become_0 rfl (by decide) (by decide) ?_
  refine st_aload_n (pc := 1) hC dX8_become_1 rfl (by decide) (by decide) ?_
  refine st_getf (ci := 7) (f := 0) (v := iV (σ t1 0)) (pc := 2) hC dX8_become_2 fl_8_9 rfl rfl ?_
  refine st_putfI (ci := 7) (f := 0) (pc := 5) hC dX8_become_5 fl_8_9 rfl rfl ?_
  refine st_aload_n (pc := 8) hC dX8_become_8 rfl (by decide) (by decide) ?_
  refine st_aload_n (pc := 9) hC dX8_become_9 rfl (by decide) (by decide) ?_
  refine st_getf (ci := 7) (f := 1) (v := iV ((upS σ t0 0 (σ t1 0)) t1 1)) (pc := 10) hC dX8_become_10 fl_8_15 rfl rfl ?_
  refine st_putfI (ci := 7) (f := 1) (pc := 13) hC dX8_become_13 fl_8_15 rfl rfl ?_
  refine st_aload_n (pc := 16) hC dX8_become_16 rfl (by decide) (by decide) ?_
  refine st_aload_n (pc := 17) hC dX8_become_17 rfl (by decide) (by decide) ?_
  refine st_getf (ci := 7) (f := 2) (v := iV ((upS (upS σ t0 0 (σ t1 0)) t0 1 ((upS σ t0 0 (σ t1 0)) t1 1)) t1 2)) (pc := 18) hC dX8_become_18 fl_8_18 rfl rfl ?_
  refine st_putfI (ci := 7) (f := 2) (pc := 21) hC dX8_become_21 fl_8_18 rfl rfl ?_
  refine st_aload_n (pc := 24) hC dX8_become_24 rfl (by decide) (by decide) ?_
  refine st_aload_n (pc := 25) hC dX8_become_25 rfl (by decide) (by decide) ?_
  refine st_getf (ci := 7) (f := 3) (v := iV ((upS (upS (upS σ t0 0 (σ t1 0)) t0 1 ((upS σ t0 0 (σ t1 0)) t1 1)) t0 2 ((upS (upS σ t0 0 (σ t1 0)) t0 1 ((upS σ t0 0 (σ t1 0)) t1 1)) t1 2)) t1 3)) (pc := 26) hC dX8_become_26 fl_8_21 rfl rfl ?_
  refine st_putfI (ci := 7) (f := 3) (pc := 29) hC dX8_become_29 fl_8_21 rfl rfl ?_
  refine st_aload_n (pc := 32) hC dX8_become_32 rfl (by decide) (by decide) ?_
  refine st_getf (ci := 7) (f := 4) (v := rV 11 (t0 + 1)) (pc := 33) hC dX8_become_33 fl_8_27 rfl rfl ?_
  refine st_aload_n (pc := 36) hC dX8_become_36 rfl (by decide) (by decide) ?_
  refine st_getf (ci := 7) (f := 4) (v := rV 11 (t1 + 1)) (pc := 37) hC dX8_become_37 fl_8_27 rfl rfl ?_
  obtain ⟨σ1, hq, h⟩ := h
  refine st_invV (As := [rV 11 (t1 + 1)]) (v := []) (S := []) (pc := 40) hC dX8_become_40 cl_8_53 rfl rfl (Nat.le_of_ble_eq_true rfl) cr_X1_takeOver hq ?_
  refine st_aload_n (pc := 43) hC dX8_become_43 rfl (by decide) (by decide) ?_
  refine st_getf (ci := 7) (f := 5) (v := rV 1000008 (t1 + 3)) (pc := 44) hC dX8_become_44 fl_8_31 rfl rfl ?_
  refine st_iconst (pc := 47) hC dX8_become_47 (by decide) ?_
  refine st_aload_n (pc := 48) hC dX8_become_48 rfl (by decide) (by decide) ?_
  refine st_getf (ci := 7) (f := 5) (v := rV 1000008 (t0 + 3)) (pc := 49) hC dX8_become_49 fl_8_31 rfl rfl ?_
  refine st_iconst (pc := 52) hC dX8_become_52 (by decide) ?_
  refine st_aload_n (pc := 53) hC dX8_become_53 rfl (by decide) (by decide) ?_
  refine st_getf (ci := 7) (f := 5) (v := rV 1000008 (t0 + 3)) (pc := 54) hC dX8_become_54 fl_8_31 rfl rfl ?_
  refine st_alen (n := 8) (pc := 57) hC dX8_become_57 (by decide) ?_
  refine st_cpy (n1 := 8) (n2 := 8) (pc := 58) hC dX8_become_58 rfl (Nat.le_of_ble_eq_true rfl) (by decide) (by decide) ?_
  refine st_aload_n (pc := 61) hC dX8_become_61 rfl (by decide) (by decide) ?_
  refine st_getf (ci := 7) (f := 6) (v := rV 1000040 (t1 + 4)) (pc := 62) hC dX8_become_62 fl_8_35 rfl rfl ?_
  refine st_iconst (pc := 65) hC dX8_become_65 (by decide) ?_
  refine st_aload_n (pc := 66) hC dX8_become_66 rfl (by decide) (by decide) ?_
  refine st_getf (ci := 7) (f := 6) (v := rV 1000040 (t0 + 4)) (pc := 67) hC dX8_become_67 fl_8_35 rfl rfl ?_
  refine st_iconst (pc := 70) hC dX8_become_70 (by decide) ?_
  refine st_aload_n (pc := 71) hC dX8_become_71 rfl (by decide) (by decide) ?_
  refine st_getf (ci := 7) (f := 6) (v := rV 1000040 (t0 + 4)) (pc := 72) hC dX8_become_72 fl_8_35 rfl rfl ?_
  refine st_alen (n := 40) (pc := 75) hC dX8_become_75 (by decide) ?_
  refine st_cpy (n1 := 40) (n2 := 40) (pc := 76) hC dX8_become_76 rfl (Nat.le_of_ble_eq_true rfl) (by decide) (by decide) ?_
  refine st_aload_n (pc := 79) hC dX8_become_79 rfl (by decide) (by decide) ?_
  refine st_getf (ci := 7) (f := 7) (v := rV 1000096 (t1 + 5)) (pc := 80) hC dX8_become_80 fl_8_38 rfl rfl ?_
  refine st_iconst (pc := 83) hC dX8_become_83 (by decide) ?_
  refine st_aload_n (pc := 84) hC dX8_become_84 rfl (by decide) (by decide) ?_
  refine st_getf (ci := 7) (f := 7) (v := rV 1000096 (t0 + 5)) (pc := 85) hC dX8_become_85 fl_8_38 rfl rfl ?_
  refine st_iconst (pc := 88) hC dX8_become_88 (by decide) ?_
  refine st_aload_n (pc := 89) hC dX8_become_89 rfl (by decide) (by decide) ?_
  refine st_getf (ci := 7) (f := 7) (v := rV 1000096 (t0 + 5)) (pc := 90) hC dX8_become_90 fl_8_38 rfl rfl ?_
  refine st_alen (n := 96) (pc := 93) hC dX8_become_93 (by decide) ?_
  refine st_cpy (n1 := 96) (n2 := 96) (pc := 94) hC dX8_become_94 rfl (Nat.le_of_ble_eq_true rfl) (by decide) (by decide) ?_
  refine st_aload_n (pc := 97) hC dX8_become_97 rfl (by decide) (by decide) ?_
  refine st_getf (ci := 7) (f := 8) (v := rV 1000008 (t1 + 6)) (pc := 98) hC dX8_become_98 fl_8_41 rfl rfl ?_
  refine st_iconst (pc := 101) hC dX8_become_101 (by decide) ?_
  refine st_aload_n (pc := 102) hC dX8_become_102 rfl (by decide) (by decide) ?_
  refine st_getf (ci := 7) (f := 8) (v := rV 1000008 (t0 + 6)) (pc := 103) hC dX8_become_103 fl_8_41 rfl rfl ?_
  refine st_iconst (pc := 106) hC dX8_become_106 (by decide) ?_
  refine st_aload_n (pc := 107) hC dX8_become_107 rfl (by decide) (by decide) ?_
  refine st_getf (ci := 7) (f := 8) (v := rV 1000008 (t0 + 6)) (pc := 108) hC dX8_become_108 fl_8_41 rfl rfl ?_
  refine st_alen (n := 8) (pc := 111) hC dX8_become_111 (by decide) ?_
  refine st_cpy (n1 := 8) (n2 := 8) (pc := 112) hC dX8_become_112 rfl (Nat.le_of_ble_eq_true rfl) (by decide) (by decide) ?_
  exact st_return (pc := 115) hC dX8_become_115 h
theorem bX8_addCoin_0 {C : Nat → List Vv → Sg → Rs → Sg → Prop} {X : Nat → List Vv → List Vv → Sg → Prop} {Xr : List Vv → Sg → Prop} {Xt : Nat → Sg → Prop} (hC : Clo C 8 cX8_addCoin none X Xr Xt) {x1 : Int} {t0 : Nat} {σ : Sg} (h : if (σ t0 1) < 8 then ((0 ≤ (σ t0 1) ∧ (σ t0 1) < 8) ∧ (Xr [] (upS (upS σ (t0 + 3) ((σ t0 1)).toNat x1) t0 1 (w32 (((upS σ (t0 + 3) ((σ t0 1)).toNat x1) t0 1) + 1))))) else (Xr [] σ)) : X 0 [rV 17 t0, iV x1] [] σ := by
  refine st_aload_n (pc := 0) hC dX8_addCoin_0 rfl (by decide) (by decide) ?_
  refine st_getf (ci := 7) (f := 1) (v := iV (σ t0 1)) (pc := 1) hC dX8_addCoin_1 fl_8_15 rfl rfl ?_
  refine st_bipush (pc := 4) hC dX8_addCoin_4 (by decide) ?_
  refine st_icmp_ge (tg := 29) (pc := 6) hC dX8_addCoin_6 (by decide) (ite_im h (fun h => ?_) (fun h => ?_))
  · refine st_aload_n (pc := 9) hC dX8_addCoin_9 rfl (by decide) (by decide) ?_
    refine st_getf (ci := 7) (f := 5) (v := rV 1000008 (t0 + 3)) (pc := 10) hC dX8_addCoin_10 fl_8_31 rfl rfl ?_
    refine st_aload_n (pc := 13) hC dX8_addCoin_13 rfl (by decide) (by decide) ?_
    refine st_getf (ci := 7) (f := 1) (v := iV (σ t0 1)) (pc := 14) hC dX8_addCoin_14 fl_8_15 rfl rfl ?_
    refine st_iload_n (pc := 17) hC dX8_addCoin_17 rfl ?_
    obtain ⟨hb, h⟩ := h
    refine st_iast (n := 8) (pc := 18) hC dX8_addCoin_18 (by decide) hb ?_
    refine st_aload_n (pc := 19) hC dX8_addCoin_19 rfl (by decide) (by decide) ?_
    refine st_dupR (pc := 20) hC dX8_addCoin_20 (by decide) (by decide) ?_
    refine st_getf (ci := 7) (f := 1) (v := iV ((upS σ (t0 + 3) ((σ t0 1)).toNat x1) t0 1)) (pc := 21) hC dX8_addCoin_21 fl_8_15 rfl rfl ?_
    refine st_iconst (pc := 24) hC dX8_addCoin_24 (by decide) ?_
    refine st_iadd (pc := 25) hC dX8_addCoin_25 ?_
    refine st_putfI (ci := 7) (f := 1) (pc := 26) hC dX8_addCoin_26 fl_8_15 rfl rfl ?_
    exact st_return (pc := 29) hC dX8_addCoin_29 h
  · exact st_return (pc := 29) hC dX8_addCoin_29 h
theorem bX8_primeOf_0 {C : Nat → List Vv → Sg → Rs → Sg → Prop} {X : Nat → List Vv → List Vv → Sg → Prop} {Xr : List Vv → Sg → Prop} {Xt : Nat → Sg → Prop} (hC : Clo C 8 cX8_primeOf (some .int) X Xr Xt) {x1 : Int} {t0 : Nat} {σ : Sg} (h : if x1 < 0 then (Xr [iV 1] σ) else (if x1 < (σ t0 1) then ((0 ≤ x1 ∧ x1 < 8) ∧ (Xr [iV (σ (t0 + 3) (x1).toNat)] σ)) else (Xr [iV 1] σ))) : X 0 [rV 17 t0, iV x1] [] σ := by
  refine st_iload_n (pc := 0) hC dX8_primeOf_0 rfl ?_
  refine st_if_lt (tg := 21) (pc := 1) hC dX8_primeOf_1 (by decide) (ite_im h (fun h => ?_) (fun h => ?_))
  · refine st_iconst (pc := 21) hC dX8_primeOf_21 (by decide) ?_
    exact st_ireturn (pc := 22) hC dX8_primeOf_22 trivial h
  · refine st_iload_n (pc := 4) hC dX8_primeOf_4 rfl ?_
    refine st_aload_n (pc := 5) hC dX8_primeOf_5 rfl (by decide) (by decide) ?_
    refine st_getf (ci := 7) (f := 1) (v := iV (σ t0 1)) (pc := 6) hC dX8_primeOf_6 fl_8_15 rfl rfl ?_
    refine st_icmp_ge (tg := 21) (pc := 9) hC dX8_primeOf_9 (by decide) (ite_im h (fun h => ?_) (fun h => ?_))
    · refine st_aload_n (pc := 12) hC dX8_primeOf_12 rfl (by decide) (by decide) ?_
      refine st_getf (ci := 7) (f := 5) (v := rV 1000008 (t0 + 3)) (pc := 13) hC dX8_primeOf_13 fl_8_31 rfl rfl ?_
      refine st_iload_n (pc := 16) hC dX8_primeOf_16 rfl ?_
      obtain ⟨hb, h⟩ := h
      refine st_iald (n := 8) (pc := 17) hC dX8_primeOf_17 (by decide) hb ?_
      refine st_goto (tg := 22) (pc := 18) hC dX8_primeOf_18 (by decide) ?_
      exact st_ireturn (pc := 22) hC dX8_primeOf_22 trivial h
    · refine st_iconst (pc := 21) hC dX8_primeOf_21 (by decide) ?_
      exact st_ireturn (pc := 22) hC dX8_primeOf_22 trivial h
theorem bX8_numberOf_0 {C : Nat → List Vv → Sg → Rs → Sg → Prop} {X : Nat → List Vv → List Vv → Sg → Prop} {Xr : List Vv → Sg → Prop} {Xt : Nat → Sg → Prop} (hC : Clo C 8 cX8_numberOf (some .int) X Xr Xt) {x1 : Int} {t0 : Nat} {σ : Sg} (h : X 2 [rV 17 t0, iV x1, iV 0] [] σ) : X 0 [rV 17 t0, iV x1, uV] [] σ := by
  refine st_iconst (pc := 0) hC dX8_numberOf_0 (by decide) ?_
  refine st_istore_n (L2 := [rV 17 t0, iV x1, iV 0]) (pc := 1) hC dX8_numberOf_1 (Nat.le_of_ble_eq_true rfl) rfl ?_
  exact h
theorem bX8_numberOf_2 {C : Nat → List Vv → Sg → Rs → Sg → Prop} {X : Nat → List Vv → List Vv → Sg → Prop} {Xr : List Vv → Sg → Prop} {Xt : Nat → Sg → Prop} (hC : Clo C 8 cX8_numberOf (some .int) X Xr Xt) {x1 x2 : Int} {t0 : Nat} {σ : Sg} (h : if x2 < (σ t0 1) then ((0 ≤ x2 ∧ x2 < 8) ∧ (if (σ (t0 + 3) (x2).toNat) = x1 then (Xr [iV x2] σ) else (X 2 [rV 17 t0, iV x1, iV (w32 (x2 + 1))] [] σ))) else (Xr [iV (-1)] σ)) : X 2 [rV 17 t0, iV x1, iV x2] [] σ := by
  refine st_iload_n (pc := 2) hC dX8_numberOf_2 rfl ?_
  refine st_aload_n (pc := 3) hC dX8_numberOf_3 rfl (by decide) (by decide) ?_
  refine st_getf (ci := 7) (f := 1) (v := iV (σ t0 1)) (pc := 4) hC dX8_numberOf_4 fl_8_15 rfl rfl ?_
  refine st_icmp_ge (tg := 28) (pc := 7) hC dX8_numberOf_7 (by decide) (ite_im h (fun h => ?_) (fun h => ?_))
  · refine st_aload_n (pc := 10) hC dX8_numberOf_10 rfl (by decide) (by decide) ?_
    refine st_getf (ci := 7) (f := 5) (v := rV 1000008 (t0 + 3)) (pc := 11) hC dX8_numberOf_11 fl_8_31 rfl rfl ?_
    refine st_iload_n (pc := 14) hC dX8_numberOf_14 rfl ?_
    obtain ⟨hb, h⟩ := h
    refine st_iald (n := 8) (pc := 15) hC dX8_numberOf_15 (by decide) hb ?_
    refine st_iload_n (pc := 16) hC dX8_numberOf_16 rfl ?_
    refine st_icmp_ne (tg := 22) (pc := 17) hC dX8_numberOf_17 (by decide) (ite_im h (fun h => ?_) (fun h => ?_))
    · refine st_iload_n (pc := 20) hC dX8_numberOf_20 rfl ?_
      exact st_ireturn (pc := 21) hC dX8_numberOf_21 trivial h
    · refine st_iinc (L2 := [rV 17 t0, iV x1, iV (w32 (x2 + 1))]) (pc := 22) hC dX8_numberOf_22 rfl (Nat.le_of_ble_eq_true rfl) rfl ?_
      refine st_goto (tg := 2) (pc := 25) hC dX8_numberOf_25 (by decide) ?_
      exact h
  · refine st_iconst (pc := 28) hC dX8_numberOf_28 (by decide) ?_
    exact st_ireturn (pc := 29) hC dX8_numberOf_29 trivial h
theorem bX8_takeApart_0 {C : Nat → List Vv → Sg → Rs → Sg → Prop} {X : Nat → List Vv → List Vv → Sg → Prop} {Xr : List Vv → Sg → Prop} {Xt : Nat → Sg → Prop} (hC : Clo C 8 cX8_takeApart (some .boolean) X Xr Xt) {x1 : Int} {t0 : Nat} {σ : Sg} (h : ∃ σ1 : Sg, C MJ7_fill_53178 [rV 1000008 53, iV 0] σ (.inl []) σ1 ∧ (if x1 < 1 then (Xr [iV 0] σ1) else (X 19 [rV 17 t0, lV x1, uV, rV 1000008 53, lV x1, uV, iV 0, uV, uV] [] σ1))) : X 0 [rV 17 t0, lV x1, uV, rV 1000008 53, uV, uV, uV, uV, uV] [] σ := by
  refine st_aload_n (pc := 0) hC dX8_takeApart_0 rfl (by decide) (by decide) ?_
  refine st_iconst (pc := 1) hC dX8_takeApart_1 (by decide) ?_
  obtain ⟨σ1, hq, h⟩ := h
  refine st_invS (As := [rV 1000008 53, iV 0]) (v := []) (S := []) (pc := 2) hC dX8_takeApart_2 cl_8_47 rfl rfl (Nat.le_of_ble_eq_true rfl) hq ?_
  refine st_lload_n (pc := 5) hC dX8_takeApart_5 rfl ?_
  refine st_lconst1 (pc := 6) hC dX8_takeApart_6 ?_
  refine st_lcmp_ge (tg := 13) (pc := 7) hC dX8_takeApart_7 dX8_takeApart_8 (by decide) (ite_im h (fun h => ?_) (fun h => ?_))
  · refine st_iconst (pc := 11) hC dX8_takeApart_11 (by decide) ?_
    exact st_ireturn (pc := 12) hC dX8_takeApart_12 (Or.inl rfl) h
  · refine st_lload_n (pc := 13) hC dX8_takeApart_13 rfl ?_
    refine st_lstore (L2 := [rV 17 t0, lV x1, uV, rV 1000008 53, lV x1, uV, uV, uV, uV]) (pc := 14) hC dX8_takeApart_14 (Nat.le_of_ble_eq_true rfl) rfl ?_
    refine st_iconst (pc := 16) hC dX8_takeApart_16 (by decide) ?_
    refine st_istore (L2 := [rV 17 t0, lV x1, uV, rV 1000008 53, lV x1, uV, iV 0, uV, uV]) (pc := 17) hC dX8_takeApart_17 (Nat.le_of_ble_eq_true rfl) rfl ?_
    exact h
theorem bX8_takeApart_19 {C : Nat → List Vv → Sg → Rs → Sg → Prop} {X : Nat → List Vv → List Vv → Sg → Prop} {Xr : List Vv → Sg → Prop} {Xt : Nat → Sg → Prop} (hC : Clo C 8 cX8_takeApart (some .boolean) X Xr Xt) {x1 x4 x6 : Int} {t0 : Nat} {σ : Sg} (h : if x6 < (σ t0 1) then (if x6 < 8 then ((0 ≤ x6 ∧ x6 < 8) ∧ (X 51 [rV 17 t0, lV x1, uV, rV 1000008 53, lV x4, uV, iV x6, iV (max (σ (t0 + 3) (x6).toNat) 2), iV 0] [] σ)) else (if x4 = 1 then (Xr [iV 1] σ) else (Xr [iV 0] σ))) else (if x4 = 1 then (Xr [iV 1] σ) else (Xr [iV 0] σ))) : X 19 [rV 17 t0, lV x1, uV, rV 1000008 53, lV x4, uV, iV x6, uV, uV] [] σ := by
  refine st_iload (pc := 19) hC dX8_takeApart_19 rfl ?_
  refine st_aload_n (pc := 21) hC dX8_takeApart_21 rfl (by decide) (by decide) ?_
  refine st_getf (ci := 7) (f := 1) (v := iV (σ t0 1)) (pc := 22) hC dX8_takeApart_22 fl_8_15 rfl rfl ?_
  refine st_icmp_ge (tg := 97) (pc := 25) hC dX8_takeApart_25 (by decide) (ite_im h (fun h => ?_) (fun h => ?_))
  · refine st_iload (pc := 28) hC dX8_takeApart_28 rfl ?_
    refine st_aload_n (pc := 30) hC dX8_takeApart_30 rfl (by decide) (by decide) ?_
    refine st_alen (n := 8) (pc := 31) hC dX8_takeApart_31 (by decide) ?_
    refine st_icmp_ge (tg := 97) (pc := 32) hC dX8_takeApart_32 (by decide) (ite_im h (fun h => ?_) (fun h => ?_))
    · refine st_aload_n (pc := 35) hC dX8_takeApart_35 rfl (by decide) (by decide) ?_
      refine st_getf (ci := 7) (f := 5) (v := rV 1000008 (t0 + 3)) (pc := 36) hC dX8_takeApart_36 fl_8_31 rfl rfl ?_
      refine st_iload (pc := 39) hC dX8_takeApart_39 rfl ?_
      obtain ⟨hb, h⟩ := h
      refine st_iald (n := 8) (pc := 41) hC dX8_takeApart_41 (by decide) hb ?_
      refine st_iconst (pc := 42) hC dX8_takeApart_42 (by decide) ?_
      refine st_mmax (pc := 43) hC dX8_takeApart_43 rfl (Nat.le_of_ble_eq_true rfl) ?_
      refine st_istore (L2 := [rV 17 t0, lV x1, uV, rV 1000008 53, lV x4, uV, iV x6, iV (max (σ (t0 + 3) (x6).toNat) 2), uV]) (pc := 46) hC dX8_takeApart_46 (Nat.le_of_ble_eq_true rfl) rfl ?_
      refine st_iconst (pc := 48) hC dX8_takeApart_48 (by decide) ?_
      refine st_istore (L2 := [rV 17 t0, lV x1, uV, rV 1000008 53, lV x4, uV, iV x6, iV (max (σ (t0 + 3) (x6).toNat) 2), iV 0]) (pc := 49) hC dX8_takeApart_49 (Nat.le_of_ble_eq_true rfl) rfl ?_
      exact h
    · refine st_lload (pc := 97) hC dX8_takeApart_97 rfl ?_
      refine st_lconst1 (pc := 99) hC dX8_takeApart_99 ?_
      refine st_lcmp_ne (tg := 108) (pc := 100) hC dX8_takeApart_100 dX8_takeApart_101 (by decide) (ite_im h (fun h => ?_) (fun h => ?_))
      · refine st_iconst (pc := 104) hC dX8_takeApart_104 (by decide) ?_
        refine st_goto (tg := 109) (pc := 105) hC dX8_takeApart_105 (by decide) ?_
        exact st_ireturn (pc := 109) hC dX8_takeApart_109 (Or.inr rfl) h
      · refine st_iconst (pc := 108) hC dX8_takeApart_108 (by decide) ?_
        exact st_ireturn (pc := 109) hC dX8_takeApart_109 (Or.inl rfl) h
  · refine st_lload (pc := 97) hC dX8_takeApart_97 rfl ?_
    refine st_lconst1 (pc := 99) hC dX8_takeApart_99 ?_
    refine st_lcmp_ne (tg := 108) (pc := 100) hC dX8_takeApart_100 dX8_takeApart_101 (by decide) (ite_im h (fun h => ?_) (fun h => ?_))
    · refine st_iconst (pc := 104) hC dX8_takeApart_104 (by decide) ?_
      refine st_goto (tg := 109) (pc := 105) hC dX8_takeApart_105 (by decide) ?_
      exact st_ireturn (pc := 109) hC dX8_takeApart_109 (Or.inr rfl) h
    · refine st_iconst (pc := 108) hC dX8_takeApart_108 (by decide) ?_
      exact st_ireturn (pc := 109) hC dX8_takeApart_109 (Or.inl rfl) h
theorem bX8_takeApart_51 {C : Nat → List Vv → Sg → Rs → Sg → Prop} {X : Nat → List Vv → List Vv → Sg → Prop} {Xr : List Vv → Sg → Prop} {Xt : Nat → Sg → Prop} (hC : Clo C 8 cX8_takeApart (some .boolean) X Xr Xt) {x1 x4 x6 x7 x8 : Int} {t0 : Nat} {σ : Sg} (h : if x8 < 64 then (x7 ≠ 0 ∧ (if (x4.tmod x7) = 0 then (x7 ≠ 0 ∧ ((0 ≤ x6 ∧ x6 < 8) ∧ ((0 ≤ x6 ∧ x6 < 8) ∧ (X 51 [rV 17 t0, lV x1, uV, rV 1000008 53, lV (w64 (x4.tdiv x7)), uV, iV x6, iV x7, iV (w32 (x8 + 1))] [] (upS σ 53 (x6).toNat (w32 ((σ 53 (x6).toNat) + 1))))))) else (X 19 [rV 17 t0, lV x1, uV, rV 1000008 53, lV x4, uV, iV (w32 (x6 + 1)), uV, uV] [] σ))) else (X 19 [rV 17 t0, lV x1, uV, rV 1000008 53, lV x4, uV, iV (w32 (x6 + 1)), uV, uV] [] σ)) : X 51 [rV 17 t0, lV x1, uV, rV 1000008 53, lV x4, uV, iV x6, iV x7, iV x8] [] σ := by
  refine st_iload (pc := 51) hC dX8_takeApart_51 rfl ?_
  refine st_bipush (pc := 53) hC dX8_takeApart_53 (by decide) ?_
  refine st_icmp_ge (tg := 91) (pc := 55) hC dX8_takeApart_55 (by decide) (ite_im h (fun h => ?_) (fun h => ?_))
  · refine st_lload (pc := 58) hC dX8_takeApart_58 rfl ?_
    refine st_iload (pc := 60) hC dX8_takeApart_60 rfl ?_
    refine st_i2l (pc := 62) hC dX8_takeApart_62 ?_
    obtain ⟨h0, h⟩ := h
    refine st_lrem (pc := 63) hC dX8_takeApart_63 h0 ?_
    refine st_lconst0 (pc := 64) hC dX8_takeApart_64 ?_
    refine st_lcmp_ne (tg := 91) (pc := 65) hC dX8_takeApart_65 dX8_takeApart_66 (by decide) (ite_im h (fun h => ?_) (fun h => ?_))
    · refine st_lload (pc := 69) hC dX8_takeApart_69 rfl ?_
      refine st_iload (pc := 71) hC dX8_takeApart_71 rfl ?_
      refine st_i2l (pc := 73) hC dX8_takeApart_73 ?_
      obtain ⟨h0, h⟩ := h
      refine st_ldiv (pc := 74) hC dX8_takeApart_74 h0 ?_
      refine st_lstore (L2 := [rV 17 t0, lV x1, uV, rV 1000008 53, lV (w64 (x4.tdiv x7)), uV, iV x6, iV x7, iV x8]) (pc := 75) hC dX8_takeApart_75 (Nat.le_of_ble_eq_true rfl) rfl ?_
      refine st_aload_n (pc := 77) hC dX8_takeApart_77 rfl (by decide) (by decide) ?_
      refine st_iload (pc := 78) hC dX8_takeApart_78 rfl ?_
      refine st_dup2IR (pc := 80) hC dX8_takeApart_80 (by decide) (by decide) ?_
      obtain ⟨hb, h⟩ := h
      refine st_iald (n := 8) (pc := 81) hC dX8_takeApart_81 (by decide) hb ?_
      refine st_iconst (pc := 82) hC dX8_takeApart_82 (by decide) ?_
      refine st_iadd (pc := 83) hC dX8_takeApart_83 ?_
      obtain ⟨hb, h⟩ := h
      refine st_iast (n := 8) (pc := 84) hC dX8_takeApart_84 (by decide) hb ?_
      refine st_iinc (L2 := [rV 17 t0, lV x1, uV, rV 1000008 53, lV (w64 (x4.tdiv x7)), uV, iV x6, iV x7, iV (w32 (x8 + 1))]) (pc := 85) hC dX8_takeApart_85 rfl (Nat.le_of_ble_eq_true rfl) rfl ?_
      refine st_goto (tg := 51) (pc := 88) hC dX8_takeApart_88 (by decide) ?_
      exact h
    · refine st_iinc (L2 := [rV 17 t0, lV x1, uV, rV 1000008 53, lV x4, uV, iV (w32 (x6 + 1)), iV x7, iV x8]) (pc := 91) hC dX8_takeApart_91 rfl (Nat.le_of_ble_eq_true rfl) rfl ?_
      refine st_goto (tg := 19) (pc := 94) hC dX8_takeApart_94 (by decide) ?_
      exact st_fg (L2 := [rV 17 t0, lV x1, uV, rV 1000008 53, lV x4, uV, iV (w32 (x6 + 1)), uV, uV]) hC ⟨Or.inl rfl, Or.inl rfl, Or.inl rfl, Or.inl rfl, Or.inl rfl, Or.inl rfl, Or.inl rfl, Or.inr rfl, Or.inr rfl, trivial⟩ h
  · refine st_iinc (L2 := [rV 17 t0, lV x1, uV, rV 1000008 53, lV x4, uV, iV (w32 (x6 + 1)), iV x7, iV x8]) (pc := 91) hC dX8_takeApart_91 rfl (Nat.le_of_ble_eq_true rfl) rfl ?_
    refine st_goto (tg := 19) (pc := 94) hC dX8_takeApart_94 (by decide) ?_
    exact st_fg (L2 := [rV 17 t0, lV x1, uV, rV 1000008 53, lV x4, uV, iV (w32 (x6 + 1)), uV, uV]) hC ⟨Or.inl rfl, Or.inl rfl, Or.inl rfl, Or.inl rfl, Or.inl rfl, Or.inl rfl, Or.inl rfl, Or.inr rfl, Or.inr rfl, trivial⟩ h
theorem bX8_held_0 {C : Nat → List Vv → Sg → Rs → Sg → Prop} {X : Nat → List Vv → List Vv → Sg → Prop} {Xr : List Vv → Sg → Prop} {Xt : Nat → Sg → Prop} (hC : Clo C 8 cX8_held (some .int) X Xr Xt) {x1 x2 : Int} {t0 : Nat} {σ : Sg} (h : if x1 < 0 then (Xr [iV 0] σ) else (if x1 < 5 then (if x2 < 0 then (Xr [iV 0] σ) else (if x2 < 8 then ((0 ≤ (w32 ((w32 (x1 * 8)) + x2)) ∧ (w32 ((w32 (x1 * 8)) + x2)) < 40) ∧ (Xr [iV (σ (t0 + 4) ((w32 ((w32 (x1 * 8)) + x2))).toNat)] σ)) else (Xr [iV 0] σ))) else (Xr [iV 0] σ))) : X 0 [rV 17 t0, iV x1, iV x2, uV] [] σ := by
  refine st_iload_n (pc := 0) hC dX8_held_0 rfl ?_
  refine st_if_lt (tg := 23) (pc := 1) hC dX8_held_1 (by decide) (ite_im h (fun h => ?_) (fun h => ?_))
  · refine st_iconst (pc := 23) hC dX8_held_23 (by decide) ?_
    refine st_istore_n (L2 := [rV 17 t0, iV x1, iV x2, iV 0]) (pc := 24) hC dX8_held_24 (Nat.le_of_ble_eq_true rfl) rfl ?_
    refine st_iload_n (pc := 25) hC dX8_held_25 rfl ?_
    refine st_if_eq (tg := 43) (pc := 26) hC dX8_held_26 (by decide) ?_
    rw [if_pos (by decide)]
    refine st_iconst (pc := 43) hC dX8_held_43 (by decide) ?_
    exact st_ireturn (pc := 44) hC dX8_held_44 trivial h
  · refine st_iload_n (pc := 4) hC dX8_held_4 rfl ?_
    refine st_iconst (pc := 5) hC dX8_held_5 (by decide) ?_
    refine st_icmp_ge (tg := 23) (pc := 6) hC dX8_held_6 (by decide) (ite_im h (fun h => ?_) (fun h => ?_))
    · refine st_iload_n (pc := 9) hC dX8_held_9 rfl ?_
      refine st_if_lt (tg := 23) (pc := 10) hC dX8_held_10 (by decide) (ite_im h (fun h => ?_) (fun h => ?_))
      · refine st_iconst (pc := 23) hC dX8_held_23 (by decide) ?_
        refine st_istore_n (L2 := [rV 17 t0, iV x1, iV x2, iV 0]) (pc := 24) hC dX8_held_24 (Nat.le_of_ble_eq_true rfl) rfl ?_
        refine st_iload_n (pc := 25) hC dX8_held_25 rfl ?_
        refine st_if_eq (tg := 43) (pc := 26) hC dX8_held_26 (by decide) ?_
        rw [if_pos (by decide)]
        refine st_iconst (pc := 43) hC dX8_held_43 (by decide) ?_
        exact st_ireturn (pc := 44) hC dX8_held_44 trivial h
      · refine st_iload_n (pc := 13) hC dX8_held_13 rfl ?_
        refine st_bipush (pc := 14) hC dX8_held_14 (by decide) ?_
        refine st_icmp_ge (tg := 23) (pc := 16) hC dX8_held_16 (by decide) (ite_im h (fun h => ?_) (fun h => ?_))
        · refine st_iconst (pc := 19) hC dX8_held_19 (by decide) ?_
          refine st_goto (tg := 24) (pc := 20) hC dX8_held_20 (by decide) ?_
          refine st_istore_n (L2 := [rV 17 t0, iV x1, iV x2, iV 1]) (pc := 24) hC dX8_held_24 (Nat.le_of_ble_eq_true rfl) rfl ?_
          refine st_iload_n (pc := 25) hC dX8_held_25 rfl ?_
          refine st_if_eq (tg := 43) (pc := 26) hC dX8_held_26 (by decide) ?_
          rw [if_neg (by decide)]
          refine st_aload_n (pc := 29) hC dX8_held_29 rfl (by decide) (by decide) ?_
          refine st_getf (ci := 7) (f := 6) (v := rV 1000040 (t0 + 4)) (pc := 30) hC dX8_held_30 fl_8_35 rfl rfl ?_
          refine st_iload_n (pc := 33) hC dX8_held_33 rfl ?_
          refine st_bipush (pc := 34) hC dX8_held_34 (by decide) ?_
          refine st_imul (pc := 36) hC dX8_held_36 ?_
          refine st_iload_n (pc := 37) hC dX8_held_37 rfl ?_
          refine st_iadd (pc := 38) hC dX8_held_38 ?_
          obtain ⟨hb, h⟩ := h
          refine st_iald (n := 40) (pc := 39) hC dX8_held_39 (by decide) hb ?_
          refine st_goto (tg := 44) (pc := 40) hC dX8_held_40 (by decide) ?_
          exact st_ireturn (pc := 44) hC dX8_held_44 trivial h
        · refine st_iconst (pc := 23) hC dX8_held_23 (by decide) ?_
          refine st_istore_n (L2 := [rV 17 t0, iV x1, iV x2, iV 0]) (pc := 24) hC dX8_held_24 (Nat.le_of_ble_eq_true rfl) rfl ?_
          refine st_iload_n (pc := 25) hC dX8_held_25 rfl ?_
          refine st_if_eq (tg := 43) (pc := 26) hC dX8_held_26 (by decide) ?_
          rw [if_pos (by decide)]
          refine st_iconst (pc := 43) hC dX8_held_43 (by decide) ?_
          exact st_ireturn (pc := 44) hC dX8_held_44 trivial h
    · refine st_iconst (pc := 23) hC dX8_held_23 (by decide) ?_
      refine st_istore_n (L2 := [rV 17 t0, iV x1, iV x2, iV 0]) (pc := 24) hC dX8_held_24 (Nat.le_of_ble_eq_true rfl) rfl ?_
      refine st_iload_n (pc := 25) hC dX8_held_25 rfl ?_
      refine st_if_eq (tg := 43) (pc := 26) hC dX8_held_26 (by decide) ?_
      rw [if_pos (by decide)]
      refine st_iconst (pc := 43) hC dX8_held_43 (by decide) ?_
      exact st_ireturn (pc := 44) hC dX8_held_44 trivial h
theorem bX8_come_0 {C : Nat → List Vv → Sg → Rs → Sg → Prop} {X : Nat → List Vv → List Vv → Sg → Prop} {Xr : List Vv → Sg → Prop} {Xt : Nat → Sg → Prop} (hC : Clo C 8 cX8_come none X Xr Xt) {x1 x2 x3 : Int} {t0 : Nat} {σ : Sg} (h : if x1 < 0 then (Xr [] σ) else (if x1 < 5 then (if x2 < 0 then (Xr [] σ) else (if x2 < 8 then ((0 ≤ (w32 ((w32 (x1 * 8)) + x2)) ∧ (w32 ((w32 (x1 * 8)) + x2)) < 40) ∧ ((0 ≤ (w32 ((w32 (x1 * 8)) + x2)) ∧ (w32 ((w32 (x1 * 8)) + x2)) < 40) ∧ (Xr [] (upS σ (t0 + 4) ((w32 ((w32 (x1 * 8)) + x2))).toNat (w32 ((σ (t0 + 4) ((w32 ((w32 (x1 * 8)) + x2))).toNat) + x3)))))) else (Xr [] σ))) else (Xr [] σ))) : X 0 [rV 17 t0, iV x1, iV x2, iV x3] [] σ := by
  refine st_iload_n (pc := 0) hC dX8_come_0 rfl ?_
  refine st_if_lt (tg := 34) (pc := 1) hC dX8_come_1 (by decide) (ite_im h (fun h => ?_) (fun h => ?_))
  · exact st_return (pc := 34) hC dX8_come_34 h
  · refine st_iload_n (pc := 4) hC dX8_come_4 rfl ?_
    refine st_iconst (pc := 5) hC dX8_come_5 (by decide) ?_
    refine st_icmp_ge (tg := 34) (pc := 6) hC dX8_come_6 (by decide) (ite_im h (fun h => ?_) (fun h => ?_))
    · refine st_iload_n (pc := 9) hC dX8_come_9 rfl ?_
      refine st_if_lt (tg := 34) (pc := 10) hC dX8_come_10 (by decide) (ite_im h (fun h => ?_) (fun h => ?_))
      · exact st_return (pc := 34) hC dX8_come_34 h
      · refine st_iload_n (pc := 13) hC dX8_come_13 rfl ?_
        refine st_bipush (pc := 14) hC dX8_come_14 (by decide) ?_
        refine st_icmp_ge (tg := 34) (pc := 16) hC dX8_come_16 (by decide) (ite_im h (fun h => ?_) (fun h => ?_))
        · refine st_aload_n (pc := 19) hC dX8_come_19 rfl (by decide) (by decide) ?_
          refine st_getf (ci := 7) (f := 6) (v := rV 1000040 (t0 + 4)) (pc := 20) hC dX8_come_20 fl_8_35 rfl rfl ?_
          refine st_iload_n (pc := 23) hC dX8_come_23 rfl ?_
          refine st_bipush (pc := 24) hC dX8_come_24 (by decide) ?_
          refine st_imul (pc := 26) hC dX8_come_26 ?_
          refine st_iload_n (pc := 27) hC dX8_come_27 rfl ?_
          refine st_iadd (pc := 28) hC dX8_come_28 ?_
          refine st_dup2IR (pc := 29) hC dX8_come_29 (by decide) (by decide) ?_
          obtain ⟨hb, h⟩ := h
          refine st_iald (n := 40) (pc := 30) hC dX8_come_30 (by decide) hb ?_
          refine st_iload_n (pc := 31) hC dX8_come_31 rfl ?_
          refine st_iadd (pc := 32) hC dX8_come_32 ?_
          obtain ⟨hb, h⟩ := h
          refine st_iast (n := 40) (pc := 33) hC dX8_come_33 (by decide) hb ?_
          exact st_return (pc := 34) hC dX8_come_34 h
        · exact st_return (pc := 34) hC dX8_come_34 h
    · exact st_return (pc := 34) hC dX8_come_34 h
theorem bX8_many_0 {C : Nat → List Vv → Sg → Rs → Sg → Prop} {X : Nat → List Vv → List Vv → Sg → Prop} {Xr : List Vv → Sg → Prop} {Xt : Nat → Sg → Prop} (hC : Clo C 8 cX8_many (some .int) X Xr Xt) {x1 : Int} {t0 : Nat} {σ : Sg} (h : X 4 [rV 17 t0, iV x1, iV 0, iV 0] [] σ) : X 0 [rV 17 t0, iV x1, uV, uV] [] σ := by
  refine st_iconst (pc := 0) hC dX8_many_0 (by decide) ?_
  refine st_istore_n (L2 := [rV 17 t0, iV x1, iV 0, uV]) (pc := 1) hC dX8_many_1 (Nat.le_of_ble_eq_true rfl) rfl ?_
  refine st_iconst (pc := 2) hC dX8_many_2 (by decide) ?_
  refine st_istore_n (L2 := [rV 17 t0, iV x1, iV 0, iV 0]) (pc := 3) hC dX8_many_3 (Nat.le_of_ble_eq_true rfl) rfl ?_
  exact h
theorem bX8_many_4 {C : Nat → List Vv → Sg → Rs → Sg → Prop} {X : Nat → List Vv → List Vv → Sg → Prop} {Xr : List Vv → Sg → Prop} {Xt : Nat → Sg → Prop} (hC : Clo C 8 cX8_many (some .int) X Xr Xt) {x1 x2 x3 : Int} {t0 : Nat} {σ : Sg} (h : if x3 < (σ t0 1) then (∃ v1 : Int, C MX8_held [rV 17 t0, iV x1, iV x3] σ (.inl [iV v1]) σ ∧ (X 4 [rV 17 t0, iV x1, iV (w32 (x2 + v1)), iV (w32 (x3 + 1))] [] σ)) else (Xr [iV x2] σ)) : X 4 [rV 17 t0, iV x1, iV x2, iV x3] [] σ := by
  refine st_iload_n (pc := 4) hC dX8_many_4 rfl ?_
  refine st_aload_n (pc := 5) hC dX8_many_5 rfl (by decide) (by decide) ?_
  refine st_getf (ci := 7) (f := 1) (v := iV (σ t0 1)) (pc := 6) hC dX8_many_6 fl_8_15 rfl rfl ?_
  refine st_icmp_ge (tg := 27) (pc := 9) hC dX8_many_9 (by decide) (ite_im h (fun h => ?_) (fun h => ?_))
  · refine st_iload_n (pc := 12) hC dX8_many_12 rfl ?_
    refine st_aload_n (pc := 13) hC dX8_many_13 rfl (by decide) (by decide) ?_
    refine st_iload_n (pc := 14) hC dX8_many_14 rfl ?_
    refine st_iload_n (pc := 15) hC dX8_many_15 rfl ?_
    obtain ⟨v1, hq, h⟩ := h
    refine st_invV (As := [iV x1, iV x3]) (v := [iV v1]) (S := [iV x2]) (pc := 16) hC dX8_many_16 cl_8_69 rfl rfl (Nat.le_of_ble_eq_true rfl) cr_X8_held hq ?_
    refine st_iadd (pc := 19) hC dX8_many_19 ?_
    refine st_istore_n (L2 := [rV 17 t0, iV x1, iV (w32 (x2 + v1)), iV x3]) (pc := 20) hC dX8_many_20 (Nat.le_of_ble_eq_true rfl) rfl ?_
    refine st_iinc (L2 := [rV 17 t0, iV x1, iV (w32 (x2 + v1)), iV (w32 (x3 + 1))]) (pc := 21) hC dX8_many_21 rfl (Nat.le_of_ble_eq_true rfl) rfl ?_
    refine st_goto (tg := 4) (pc := 24) hC dX8_many_24 (by decide) ?_
    exact h
  · refine st_iload_n (pc := 27) hC dX8_many_27 rfl ?_
    exact st_ireturn (pc := 28) hC dX8_many_28 trivial h
theorem bX8_manyInPurses_0 {C : Nat → List Vv → Sg → Rs → Sg → Prop} {X : Nat → List Vv → List Vv → Sg → Prop} {Xr : List Vv → Sg → Prop} {Xt : Nat → Sg → Prop} (hC : Clo C 8 cX8_manyInPurses (some .int) X Xr Xt) {t0 : Nat} {σ : Sg} (h : X 4 [rV 17 t0, iV 0, iV 0] [] σ) : X 0 [rV 17 t0, uV, uV] [] σ := by
  refine st_iconst (pc := 0) hC dX8_manyInPurses_0 (by decide) ?_
  refine st_istore_n (L2 := [rV 17 t0, iV 0, uV]) (pc := 1) hC dX8_manyInPurses_1 (Nat.le_of_ble_eq_true rfl) rfl ?_
  refine st_iconst (pc := 2) hC dX8_manyInPurses_2 (by decide) ?_
  refine st_istore_n (L2 := [rV 17 t0, iV 0, iV 0]) (pc := 3) hC dX8_manyInPurses_3 (Nat.le_of_ble_eq_true rfl) rfl ?_
  exact h
theorem bX8_manyInPurses_4 {C : Nat → List Vv → Sg → Rs → Sg → Prop} {X : Nat → List Vv → List Vv → Sg → Prop} {Xr : List Vv → Sg → Prop} {Xt : Nat → Sg → Prop} (hC : Clo C 8 cX8_manyInPurses (some .int) X Xr Xt) {x1 x2 : Int} {t0 : Nat} {σ : Sg} (h : if x2 < (σ t0 2) then (∃ v1 : Int, C MX8_many [rV 17 t0, iV x2] σ (.inl [iV v1]) σ ∧ (X 4 [rV 17 t0, iV (w32 (x1 + v1)), iV (w32 (x2 + 1))] [] σ)) else (Xr [iV x1] σ)) : X 4 [rV 17 t0, iV x1, iV x2] [] σ := by
  refine st_iload_n (pc := 4) hC dX8_manyInPurses_4 rfl ?_
  refine st_aload_n (pc := 5) hC dX8_manyInPurses_5 rfl (by decide) (by decide) ?_
  refine st_getf (ci := 7) (f := 2) (v := iV (σ t0 2)) (pc := 6) hC dX8_manyInPurses_6 fl_8_18 rfl rfl ?_
  refine st_icmp_ge (tg := 26) (pc := 9) hC dX8_manyInPurses_9 (by decide) (ite_im h (fun h => ?_) (fun h => ?_))
  · refine st_iload_n (pc := 12) hC dX8_manyInPurses_12 rfl ?_
    refine st_aload_n (pc := 13) hC dX8_manyInPurses_13 rfl (by decide) (by decide) ?_
    refine st_iload_n (pc := 14) hC dX8_manyInPurses_14 rfl ?_
    obtain ⟨v1, hq, h⟩ := h
    refine st_invV (As := [iV x2]) (v := [iV v1]) (S := [iV x1]) (pc := 15) hC dX8_manyInPurses_15 cl_8_72 rfl rfl (Nat.le_of_ble_eq_true rfl) cr_X8_many hq ?_
    refine st_iadd (pc := 18) hC dX8_manyInPurses_18 ?_
    refine st_istore_n (L2 := [rV 17 t0, iV (w32 (x1 + v1)), iV x2]) (pc := 19) hC dX8_manyInPurses_19 (Nat.le_of_ble_eq_true rfl) rfl ?_
    refine st_iinc (L2 := [rV 17 t0, iV (w32 (x1 + v1)), iV (w32 (x2 + 1))]) (pc := 20) hC dX8_manyInPurses_20 rfl (Nat.le_of_ble_eq_true rfl) rfl ?_
    refine st_goto (tg := 4) (pc := 23) hC dX8_manyInPurses_23 (by decide) ?_
    exact h
  · refine st_iload_n (pc := 26) hC dX8_manyInPurses_26 rfl ?_
    exact st_ireturn (pc := 27) hC dX8_manyInPurses_27 trivial h
theorem bX8_unlike_0 {C : Nat → List Vv → Sg → Rs → Sg → Prop} {X : Nat → List Vv → List Vv → Sg → Prop} {Xr : List Vv → Sg → Prop} {Xt : Nat → Sg → Prop} (hC : Clo C 8 cX8_unlike (some .int) X Xr Xt) {x1 : Int} {t0 : Nat} {σ : Sg} (h : ∃ v1 : Int, C MX8_coinBits [rV 17 t0, iV x1] σ (.inl [iV v1]) σ ∧ (∃ v2 : Int, C MJ6_bitCount_0f7a4 [iV v1] σ (.inl [iV v2]) σ ∧ (Xr [iV v2] σ))) : X 0 [rV 17 t0, iV x1] [] σ := by
  refine st_aload_n (pc := 0) hC dX8_unlike_0 rfl (by decide) (by decide) ?_
  refine st_iload_n (pc := 1) hC dX8_unlike_1 rfl ?_
  obtain ⟨v1, hq, h⟩ := h
  refine st_invV (As := [iV x1]) (v := [iV v1]) (S := []) (pc := 2) hC dX8_unlike_2 cl_8_76 rfl rfl (Nat.le_of_ble_eq_true rfl) cr_X8_coinBits hq ?_
  obtain ⟨v2, hq, h⟩ := h
  refine st_invS (As := [iV v1]) (v := [iV v2]) (S := []) (pc := 5) hC dX8_unlike_5 cl_8_79 rfl rfl (Nat.le_of_ble_eq_true rfl) hq ?_
  exact st_ireturn (pc := 8) hC dX8_unlike_8 trivial h
theorem bX8_coinBits_0 {C : Nat → List Vv → Sg → Rs → Sg → Prop} {X : Nat → List Vv → List Vv → Sg → Prop} {Xr : List Vv → Sg → Prop} {Xt : Nat → Sg → Prop} (hC : Clo C 8 cX8_coinBits (some .int) X Xr Xt) {x1 : Int} {t0 : Nat} {σ : Sg} (h : X 4 [rV 17 t0, iV x1, iV 0, iV 0] [] σ) : X 0 [rV 17 t0, iV x1, uV, uV] [] σ := by
  refine st_iconst (pc := 0) hC dX8_coinBits_0 (by decide) ?_
  refine st_istore_n (L2 := [rV 17 t0, iV x1, iV 0, uV]) (pc := 1) hC dX8_coinBits_1 (Nat.le_of_ble_eq_true rfl) rfl ?_
  refine st_iconst (pc := 2) hC dX8_coinBits_2 (by decide) ?_
  refine st_istore_n (L2 := [rV 17 t0, iV x1, iV 0, iV 0]) (pc := 3) hC dX8_coinBits_3 (Nat.le_of_ble_eq_true rfl) rfl ?_
  exact h
theorem bX8_coinBits_4 {C : Nat → List Vv → Sg → Rs → Sg → Prop} {X : Nat → List Vv → List Vv → Sg → Prop} {Xr : List Vv → Sg → Prop} {Xt : Nat → Sg → Prop} (hC : Clo C 8 cX8_coinBits (some .int) X Xr Xt) {x1 x2 x3 : Int} {t0 : Nat} {σ : Sg} (h : if x3 < (σ t0 1) then (∃ v1 : Int, C MX8_held [rV 17 t0, iV x1, iV x3] σ (.inl [iV v1]) σ ∧ (if (0 : Int) < v1 then (X 4 [rV 17 t0, iV x1, iV (iorI x2 (ishlI 1 x3)), iV (w32 (x3 + 1))] [] σ) else (X 4 [rV 17 t0, iV x1, iV x2, iV (w32 (x3 + 1))] [] σ))) else (Xr [iV x2] σ)) : X 4 [rV 17 t0, iV x1, iV x2, iV x3] [] σ := by
  refine st_iload_n (pc := 4) hC dX8_coinBits_4 rfl ?_
  refine st_aload_n (pc := 5) hC dX8_coinBits_5 rfl (by decide) (by decide) ?_
  refine st_getf (ci := 7) (f := 1) (v := iV (σ t0 1)) (pc := 6) hC dX8_coinBits_6 fl_8_15 rfl rfl ?_
  refine st_icmp_ge (tg := 33) (pc := 9) hC dX8_coinBits_9 (by decide) (ite_im h (fun h => ?_) (fun h => ?_))
  · refine st_aload_n (pc := 12) hC dX8_coinBits_12 rfl (by decide) (by decide) ?_
    refine st_iload_n (pc := 13) hC dX8_coinBits_13 rfl ?_
    refine st_iload_n (pc := 14) hC dX8_coinBits_14 rfl ?_
    obtain ⟨v1, hq, h⟩ := h
    refine st_invV (As := [iV x1, iV x3]) (v := [iV v1]) (S := []) (pc := 15) hC dX8_coinBits_15 cl_8_69 rfl rfl (Nat.le_of_ble_eq_true rfl) cr_X8_held hq ?_
    refine st_if_le (tg := 27) (pc := 18) hC dX8_coinBits_18 (by decide) (ite_im h (fun h => ?_) (fun h => ?_))
    · refine st_iload_n (pc := 21) hC dX8_coinBits_21 rfl ?_
      refine st_iconst (pc := 22) hC dX8_coinBits_22 (by decide) ?_
      refine st_iload_n (pc := 23) hC dX8_coinBits_23 rfl ?_
      refine st_ishl (pc := 24) hC dX8_coinBits_24 ?_
      refine st_ior (pc := 25) hC dX8_coinBits_25 ?_
      refine st_istore_n (L2 := [rV 17 t0, iV x1, iV (iorI x2 (ishlI 1 x3)), iV x3]) (pc := 26) hC dX8_coinBits_26 (Nat.le_of_ble_eq_true rfl) rfl ?_
      refine st_iinc (L2 := [rV 17 t0, iV x1, iV (iorI x2 (ishlI 1 x3)), iV (w32 (x3 + 1))]) (pc := 27) hC dX8_coinBits_27 rfl (Nat.le_of_ble_eq_true rfl) rfl ?_
      refine st_goto (tg := 4) (pc := 30) hC dX8_coinBits_30 (by decide) ?_
      exact h
    · refine st_iinc (L2 := [rV 17 t0, iV x1, iV x2, iV (w32 (x3 + 1))]) (pc := 27) hC dX8_coinBits_27 rfl (Nat.le_of_ble_eq_true rfl) rfl ?_
      refine st_goto (tg := 4) (pc := 30) hC dX8_coinBits_30 (by decide) ?_
      exact h
  · refine st_iload_n (pc := 33) hC dX8_coinBits_33 rfl ?_
    exact st_ireturn (pc := 34) hC dX8_coinBits_34 trivial h
theorem bX8_greatestCoin_0 {C : Nat → List Vv → Sg → Rs → Sg → Prop} {X : Nat → List Vv → List Vv → Sg → Prop} {Xr : List Vv → Sg → Prop} {Xt : Nat → Sg → Prop} (hC : Clo C 8 cX8_greatestCoin (some .int) X Xr Xt) {x1 : Int} {t0 : Nat} {σ : Sg} (h : X 4 [rV 17 t0, iV x1, iV (-1), iV 0] [] σ) : X 0 [rV 17 t0, iV x1, uV, uV] [] σ := by
  refine st_iconst (pc := 0) hC dX8_greatestCoin_0 (by decide) ?_
  refine st_istore_n (L2 := [rV 17 t0, iV x1, iV (-1), uV]) (pc := 1) hC dX8_greatestCoin_1 (Nat.le_of_ble_eq_true rfl) rfl ?_
  refine st_iconst (pc := 2) hC dX8_greatestCoin_2 (by decide) ?_
  refine st_istore_n (L2 := [rV 17 t0, iV x1, iV (-1), iV 0]) (pc := 3) hC dX8_greatestCoin_3 (Nat.le_of_ble_eq_true rfl) rfl ?_
  exact h
theorem bX8_greatestCoin_4 {C : Nat → List Vv → Sg → Rs → Sg → Prop} {X : Nat → List Vv → List Vv → Sg → Prop} {Xr : List Vv → Sg → Prop} {Xt : Nat → Sg → Prop} (hC : Clo C 8 cX8_greatestCoin (some .int) X Xr Xt) {x1 x2 x3 : Int} {t0 : Nat} {σ : Sg} (h : if x3 < (σ t0 1) then (∃ v1 : Int, C MX8_held [rV 17 t0, iV x1, iV x3] σ (.inl [iV v1]) σ ∧ (if (0 : Int) < v1 then (if x2 = (-1) then (X 4 [rV 17 t0, iV x1, iV x3, iV (w32 (x3 + 1))] [] σ) else (∃ v2 : Int, C MX8_primeOf [rV 17 t0, iV x3] σ (.inl [iV v2]) σ ∧ (∃ v3 : Int, C MX8_primeOf [rV 17 t0, iV x2] σ (.inl [iV v3]) σ ∧ (if v3 < v2 then (X 4 [rV 17 t0, iV x1, iV x3, iV (w32 (x3 + 1))] [] σ) else (X 4 [rV 17 t0, iV x1, iV x2, iV (w32 (x3 + 1))] [] σ))))) else (X 4 [rV 17 t0, iV x1, iV x2, iV (w32 (x3 + 1))] [] σ))) else (Xr [iV x2] σ)) : X 4 [rV 17 t0, iV x1, iV x2, iV x3] [] σ := by
  refine st_iload_n (pc := 4) hC dX8_greatestCoin_4 rfl ?_
  refine st_aload_n (pc := 5) hC dX8_greatestCoin_5 rfl (by decide) (by decide) ?_
  refine st_getf (ci := 7) (f := 1) (v := iV (σ t0 1)) (pc := 6) hC dX8_greatestCoin_6 fl_8_15 rfl rfl ?_
  refine st_icmp_ge (tg := 47) (pc := 9) hC dX8_greatestCoin_9 (by decide) (ite_im h (fun h => ?_) (fun h => ?_))
  · refine st_aload_n (pc := 12) hC dX8_greatestCoin_12 rfl (by decide) (by decide) ?_
    refine st_iload_n (pc := 13) hC dX8_greatestCoin_13 rfl ?_
    refine st_iload_n (pc := 14) hC dX8_greatestCoin_14 rfl ?_
    obtain ⟨v1, hq, h⟩ := h
    refine st_invV (As := [iV x1, iV x3]) (v := [iV v1]) (S := []) (pc := 15) hC dX8_greatestCoin_15 cl_8_69 rfl rfl (Nat.le_of_ble_eq_true rfl) cr_X8_held hq ?_
    refine st_if_le (tg := 41) (pc := 18) hC dX8_greatestCoin_18 (by decide) (ite_im h (fun h => ?_) (fun h => ?_))
    · refine st_iload_n (pc := 21) hC dX8_greatestCoin_21 rfl ?_
      refine st_iconst (pc := 22) hC dX8_greatestCoin_22 (by decide) ?_
      refine st_icmp_eq (tg := 39) (pc := 23) hC dX8_greatestCoin_23 (by decide) (ite_im h (fun h => ?_) (fun h => ?_))
      · refine st_iload_n (pc := 39) hC dX8_greatestCoin_39 rfl ?_
        refine st_istore_n (L2 := [rV 17 t0, iV x1, iV x3, iV x3]) (pc := 40) hC dX8_greatestCoin_40 (Nat.le_of_ble_eq_true rfl) rfl ?_
        refine st_iinc (L2 := [rV 17 t0, iV x1, iV x3, iV (w32 (x3 + 1))]) (pc := 41) hC dX8_greatestCoin_41 rfl (Nat.le_of_ble_eq_true rfl) rfl ?_
        refine st_goto (tg := 4) (pc := 44) hC dX8_greatestCoin_44 (by decide) ?_
        exact h
      · refine st_aload_n (pc := 26) hC dX8_greatestCoin_26 rfl (by decide) (by decide) ?_
        refine st_iload_n (pc := 27) hC dX8_greatestCoin_27 rfl ?_
        obtain ⟨v2, hq, h⟩ := h
        refine st_invV (As := [iV x3]) (v := [iV v2]) (S := []) (pc := 28) hC dX8_greatestCoin_28 cl_8_84 rfl rfl (Nat.le_of_ble_eq_true rfl) cr_X8_primeOf hq ?_
        refine st_aload_n (pc := 31) hC dX8_greatestCoin_31 rfl (by decide) (by decide) ?_
        refine st_iload_n (pc := 32) hC dX8_greatestCoin_32 rfl ?_
        obtain ⟨v3, hq, h⟩ := h
        refine st_invV (As := [iV x2]) (v := [iV v3]) (S := [iV v2]) (pc := 33) hC dX8_greatestCoin_33 cl_8_84 rfl rfl (Nat.le_of_ble_eq_true rfl) cr_X8_primeOf hq ?_
        refine st_icmp_le (tg := 41) (pc := 36) hC dX8_greatestCoin_36 (by decide) (ite_im h (fun h => ?_) (fun h => ?_))
        · refine st_iload_n (pc := 39) hC dX8_greatestCoin_39 rfl ?_
          refine st_istore_n (L2 := [rV 17 t0, iV x1, iV x3, iV x3]) (pc := 40) hC dX8_greatestCoin_40 (Nat.le_of_ble_eq_true rfl) rfl ?_
          refine st_iinc (L2 := [rV 17 t0, iV x1, iV x3, iV (w32 (x3 + 1))]) (pc := 41) hC dX8_greatestCoin_41 rfl (Nat.le_of_ble_eq_true rfl) rfl ?_
          refine st_goto (tg := 4) (pc := 44) hC dX8_greatestCoin_44 (by decide) ?_
          exact h
        · refine st_iinc (L2 := [rV 17 t0, iV x1, iV x2, iV (w32 (x3 + 1))]) (pc := 41) hC dX8_greatestCoin_41 rfl (Nat.le_of_ble_eq_true rfl) rfl ?_
          refine st_goto (tg := 4) (pc := 44) hC dX8_greatestCoin_44 (by decide) ?_
          exact h
    · refine st_iinc (L2 := [rV 17 t0, iV x1, iV x2, iV (w32 (x3 + 1))]) (pc := 41) hC dX8_greatestCoin_41 rfl (Nat.le_of_ble_eq_true rfl) rfl ?_
      refine st_goto (tg := 4) (pc := 44) hC dX8_greatestCoin_44 (by decide) ?_
      exact h
  · refine st_iload_n (pc := 47) hC dX8_greatestCoin_47 rfl ?_
    exact st_ireturn (pc := 48) hC dX8_greatestCoin_48 trivial h
theorem bX8_leastCoin_0 {C : Nat → List Vv → Sg → Rs → Sg → Prop} {X : Nat → List Vv → List Vv → Sg → Prop} {Xr : List Vv → Sg → Prop} {Xt : Nat → Sg → Prop} (hC : Clo C 8 cX8_leastCoin (some .int) X Xr Xt) {x1 : Int} {t0 : Nat} {σ : Sg} (h : X 4 [rV 17 t0, iV x1, iV (-1), iV 0] [] σ) : X 0 [rV 17 t0, iV x1, uV, uV] [] σ := by
  refine st_iconst (pc := 0) hC dX8_leastCoin_0 (by decide) ?_
  refine st_istore_n (L2 := [rV 17 t0, iV x1, iV (-1), uV]) (pc := 1) hC dX8_leastCoin_1 (Nat.le_of_ble_eq_true rfl) rfl ?_
  refine st_iconst (pc := 2) hC dX8_leastCoin_2 (by decide) ?_
  refine st_istore_n (L2 := [rV 17 t0, iV x1, iV (-1), iV 0]) (pc := 3) hC dX8_leastCoin_3 (Nat.le_of_ble_eq_true rfl) rfl ?_
  exact h
theorem bX8_leastCoin_4 {C : Nat → List Vv → Sg → Rs → Sg → Prop} {X : Nat → List Vv → List Vv → Sg → Prop} {Xr : List Vv → Sg → Prop} {Xt : Nat → Sg → Prop} (hC : Clo C 8 cX8_leastCoin (some .int) X Xr Xt) {x1 x2 x3 : Int} {t0 : Nat} {σ : Sg} (h : if x3 < (σ t0 1) then (∃ v1 : Int, C MX8_held [rV 17 t0, iV x1, iV x3] σ (.inl [iV v1]) σ ∧ (if (0 : Int) < v1 then (if x2 = (-1) then (X 4 [rV 17 t0, iV x1, iV x3, iV (w32 (x3 + 1))] [] σ) else (∃ v2 : Int, C MX8_primeOf [rV 17 t0, iV x3] σ (.inl [iV v2]) σ ∧ (∃ v3 : Int, C MX8_primeOf [rV 17 t0, iV x2] σ (.inl [iV v3]) σ ∧ (if v2 < v3 then (X 4 [rV 17 t0, iV x1, iV x3, iV (w32 (x3 + 1))] [] σ) else (X 4 [rV 17 t0, iV x1, iV x2, iV (w32 (x3 + 1))] [] σ))))) else (X 4 [rV 17 t0, iV x1, iV x2, iV (w32 (x3 + 1))] [] σ))) else (Xr [iV x2] σ)) : X 4 [rV 17 t0, iV x1, iV x2, iV x3] [] σ := by
  refine st_iload_n (pc := 4) hC dX8_leastCoin_4 rfl ?_
  refine st_aload_n (pc := 5) hC dX8_leastCoin_5 rfl (by decide) (by decide) ?_
  refine st_getf (ci := 7) (f := 1) (v := iV (σ t0 1)) (pc := 6) hC dX8_leastCoin_6 fl_8_15 rfl rfl ?_
  refine st_icmp_ge (tg := 47) (pc := 9) hC dX8_leastCoin_9 (by decide) (ite_im h (fun h => ?_) (fun h => ?_))
  · refine st_aload_n (pc := 12) hC dX8_leastCoin_12 rfl (by decide) (by decide) ?_
    refine st_iload_n (pc := 13) hC dX8_leastCoin_13 rfl ?_
    refine st_iload_n (pc := 14) hC dX8_leastCoin_14 rfl ?_
    obtain ⟨v1, hq, h⟩ := h
    refine st_invV (As := [iV x1, iV x3]) (v := [iV v1]) (S := []) (pc := 15) hC dX8_leastCoin_15 cl_8_69 rfl rfl (Nat.le_of_ble_eq_true rfl) cr_X8_held hq ?_
    refine st_if_le (tg := 41) (pc := 18) hC dX8_leastCoin_18 (by decide) (ite_im h (fun h => ?_) (fun h => ?_))
    · refine st_iload_n (pc := 21) hC dX8_leastCoin_21 rfl ?_
      refine st_iconst (pc := 22) hC dX8_leastCoin_22 (by decide) ?_
      refine st_icmp_eq (tg := 39) (pc := 23) hC dX8_leastCoin_23 (by decide) (ite_im h (fun h => ?_) (fun h => ?_))
      · refine st_iload_n (pc := 39) hC dX8_leastCoin_39 rfl ?_
        refine st_istore_n (L2 := [rV 17 t0, iV x1, iV x3, iV x3]) (pc := 40) hC dX8_leastCoin_40 (Nat.le_of_ble_eq_true rfl) rfl ?_
        refine st_iinc (L2 := [rV 17 t0, iV x1, iV x3, iV (w32 (x3 + 1))]) (pc := 41) hC dX8_leastCoin_41 rfl (Nat.le_of_ble_eq_true rfl) rfl ?_
        refine st_goto (tg := 4) (pc := 44) hC dX8_leastCoin_44 (by decide) ?_
        exact h
      · refine st_aload_n (pc := 26) hC dX8_leastCoin_26 rfl (by decide) (by decide) ?_
        refine st_iload_n (pc := 27) hC dX8_leastCoin_27 rfl ?_
        obtain ⟨v2, hq, h⟩ := h
        refine st_invV (As := [iV x3]) (v := [iV v2]) (S := []) (pc := 28) hC dX8_leastCoin_28 cl_8_84 rfl rfl (Nat.le_of_ble_eq_true rfl) cr_X8_primeOf hq ?_
        refine st_aload_n (pc := 31) hC dX8_leastCoin_31 rfl (by decide) (by decide) ?_
        refine st_iload_n (pc := 32) hC dX8_leastCoin_32 rfl ?_
        obtain ⟨v3, hq, h⟩ := h
        refine st_invV (As := [iV x2]) (v := [iV v3]) (S := [iV v2]) (pc := 33) hC dX8_leastCoin_33 cl_8_84 rfl rfl (Nat.le_of_ble_eq_true rfl) cr_X8_primeOf hq ?_
        refine st_icmp_ge (tg := 41) (pc := 36) hC dX8_leastCoin_36 (by decide) (ite_im h (fun h => ?_) (fun h => ?_))
        · refine st_iload_n (pc := 39) hC dX8_leastCoin_39 rfl ?_
          refine st_istore_n (L2 := [rV 17 t0, iV x1, iV x3, iV x3]) (pc := 40) hC dX8_leastCoin_40 (Nat.le_of_ble_eq_true rfl) rfl ?_
          refine st_iinc (L2 := [rV 17 t0, iV x1, iV x3, iV (w32 (x3 + 1))]) (pc := 41) hC dX8_leastCoin_41 rfl (Nat.le_of_ble_eq_true rfl) rfl ?_
          refine st_goto (tg := 4) (pc := 44) hC dX8_leastCoin_44 (by decide) ?_
          exact h
        · refine st_iinc (L2 := [rV 17 t0, iV x1, iV x2, iV (w32 (x3 + 1))]) (pc := 41) hC dX8_leastCoin_41 rfl (Nat.le_of_ble_eq_true rfl) rfl ?_
          refine st_goto (tg := 4) (pc := 44) hC dX8_leastCoin_44 (by decide) ?_
          exact h
    · refine st_iinc (L2 := [rV 17 t0, iV x1, iV x2, iV (w32 (x3 + 1))]) (pc := 41) hC dX8_leastCoin_41 rfl (Nat.le_of_ble_eq_true rfl) rfl ?_
      refine st_goto (tg := 4) (pc := 44) hC dX8_leastCoin_44 (by decide) ?_
      exact h
  · refine st_iload_n (pc := 47) hC dX8_leastCoin_47 rfl ?_
    exact st_ireturn (pc := 48) hC dX8_leastCoin_48 trivial h
theorem bX8_worthOf_0 {C : Nat → List Vv → Sg → Rs → Sg → Prop} {X : Nat → List Vv → List Vv → Sg → Prop} {Xr : List Vv → Sg → Prop} {Xt : Nat → Sg → Prop} (hC : Clo C 8 cX8_worthOf (some .long) X Xr Xt) {x1 : Int} {t0 : Nat} {σ : Sg} (h : X 5 [rV 17 t0, iV x1, lV 1, uV, iV 0] [] σ) : X 0 [rV 17 t0, iV x1, uV, uV, uV] [] σ := by
  refine st_lconst1 (pc := 0) hC dX8_worthOf_0 ?_
  refine st_lstore_n (L2 := [rV 17 t0, iV x1, lV 1, uV, uV]) (pc := 1) hC dX8_worthOf_1 (Nat.le_of_ble_eq_true rfl) rfl ?_
  refine st_iconst (pc := 2) hC dX8_worthOf_2 (by decide) ?_
  refine st_istore (L2 := [rV 17 t0, iV x1, lV 1, uV, iV 0]) (pc := 3) hC dX8_worthOf_3 (Nat.le_of_ble_eq_true rfl) rfl ?_
  exact h
theorem bX8_worthOf_5 {C : Nat → List Vv → Sg → Rs → Sg → Prop} {X : Nat → List Vv → List Vv → Sg → Prop} {Xr : List Vv → Sg → Prop} {Xt : Nat → Sg → Prop} (hC : Clo C 8 cX8_worthOf (some .long) X Xr Xt) {x1 x2 x4 : Int} {t0 : Nat} {σ : Sg} (h : if x4 < (σ t0 1) then (∃ v1 : Int, C MX8_primeOf [rV 17 t0, iV x4] σ (.inl [iV v1]) σ ∧ (∃ v2 : Int, C MX8_held [rV 17 t0, iV x1, iV x4] σ (.inl [iV v2]) σ ∧ (∃ v3 : Int, C MX3_whole [iV v1, iV v2] σ (.inl [lV v3]) σ ∧ (X 5 [rV 17 t0, iV x1, lV (w64 (x2 * v3)), uV, iV (w32 (x4 + 1))] [] σ)))) else (Xr [lV x2] σ)) : X 5 [rV 17 t0, iV x1, lV x2, uV, iV x4] [] σ := by
  refine st_iload (pc := 5) hC dX8_worthOf_5 rfl ?_
  refine st_aload_n (pc := 7) hC dX8_worthOf_7 rfl (by decide) (by decide) ?_
  refine st_getf (ci := 7) (f := 1) (v := iV (σ t0 1)) (pc := 8) hC dX8_worthOf_8 fl_8_15 rfl rfl ?_
  refine st_icmp_ge (tg := 39) (pc := 11) hC dX8_worthOf_11 (by decide) (ite_im h (fun h => ?_) (fun h => ?_))
  · refine st_lload_n (pc := 14) hC dX8_worthOf_14 rfl ?_
    refine st_aload_n (pc := 15) hC dX8_worthOf_15 rfl (by decide) (by decide) ?_
    refine st_iload (pc := 16) hC dX8_worthOf_16 rfl ?_
    obtain ⟨v1, hq, h⟩ := h
    refine st_invV (As := [iV x4]) (v := [iV v1]) (S := [lV x2]) (pc := 18) hC dX8_worthOf_18 cl_8_84 rfl rfl (Nat.le_of_ble_eq_true rfl) cr_X8_primeOf hq ?_
    refine st_aload_n (pc := 21) hC dX8_worthOf_21 rfl (by decide) (by decide) ?_
    refine st_iload_n (pc := 22) hC dX8_worthOf_22 rfl ?_
    refine st_iload (pc := 23) hC dX8_worthOf_23 rfl ?_
    obtain ⟨v2, hq, h⟩ := h
    refine st_invV (As := [iV x1, iV x4]) (v := [iV v2]) (S := [iV v1, lV x2]) (pc := 25) hC dX8_worthOf_25 cl_8_69 rfl rfl (Nat.le_of_ble_eq_true rfl) cr_X8_held hq ?_
    obtain ⟨v3, hq, h⟩ := h
    refine st_invS (As := [iV v1, iV v2]) (v := [lV v3]) (S := [lV x2]) (pc := 28) hC dX8_worthOf_28 cl_8_87 rfl rfl (Nat.le_of_ble_eq_true rfl) hq ?_
    refine st_lmul (pc := 31) hC dX8_worthOf_31 ?_
    refine st_lstore_n (L2 := [rV 17 t0, iV x1, lV (w64 (x2 * v3)), uV, iV x4]) (pc := 32) hC dX8_worthOf_32 (Nat.le_of_ble_eq_true rfl) rfl ?_
    refine st_iinc (L2 := [rV 17 t0, iV x1, lV (w64 (x2 * v3)), uV, iV (w32 (x4 + 1))]) (pc := 33) hC dX8_worthOf_33 rfl (Nat.le_of_ble_eq_true rfl) rfl ?_
    refine st_goto (tg := 5) (pc := 36) hC dX8_worthOf_36 (by decide) ?_
    exact h
  · refine st_lload_n (pc := 39) hC dX8_worthOf_39 rfl ?_
    exact st_lreturn (pc := 40) hC dX8_worthOf_40 h
theorem bX8_richest_0 {C : Nat → List Vv → Sg → Rs → Sg → Prop} {X : Nat → List Vv → List Vv → Sg → Prop} {Xr : List Vv → Sg → Prop} {Xt : Nat → Sg → Prop} (hC : Clo C 8 cX8_richest (some .int) X Xr Xt) {t0 : Nat} {σ : Sg} (h : if (0 : Int) < (σ t0 2) then (X 15 [rV 17 t0, iV 0, iV 1] [] σ) else (X 15 [rV 17 t0, iV (-1), iV 1] [] σ)) : X 0 [rV 17 t0, uV, uV] [] σ := by
  refine st_aload_n (pc := 0) hC dX8_richest_0 rfl (by decide) (by decide) ?_
  refine st_getf (ci := 7) (f := 2) (v := iV (σ t0 2)) (pc := 1) hC dX8_richest_1 fl_8_18 rfl rfl ?_
  refine st_if_le (tg := 11) (pc := 4) hC dX8_richest_4 (by decide) (ite_im h (fun h => ?_) (fun h => ?_))
  · refine st_iconst (pc := 7) hC dX8_richest_7 (by decide) ?_
    refine st_goto (tg := 12) (pc := 8) hC dX8_richest_8 (by decide) ?_
    refine st_istore_n (L2 := [rV 17 t0, iV 0, uV]) (pc := 12) hC dX8_richest_12 (Nat.le_of_ble_eq_true rfl) rfl ?_
    refine st_iconst (pc := 13) hC dX8_richest_13 (by decide) ?_
    refine st_istore_n (L2 := [rV 17 t0, iV 0, iV 1]) (pc := 14) hC dX8_richest_14 (Nat.le_of_ble_eq_true rfl) rfl ?_
    exact h
  · refine st_iconst (pc := 11) hC dX8_richest_11 (by decide) ?_
    refine st_istore_n (L2 := [rV 17 t0, iV (-1), uV]) (pc := 12) hC dX8_richest_12 (Nat.le_of_ble_eq_true rfl) rfl ?_
    refine st_iconst (pc := 13) hC dX8_richest_13 (by decide) ?_
    refine st_istore_n (L2 := [rV 17 t0, iV (-1), iV 1]) (pc := 14) hC dX8_richest_14 (Nat.le_of_ble_eq_true rfl) rfl ?_
    exact h
theorem bX8_richest_15 {C : Nat → List Vv → Sg → Rs → Sg → Prop} {X : Nat → List Vv → List Vv → Sg → Prop} {Xr : List Vv → Sg → Prop} {Xt : Nat → Sg → Prop} (hC : Clo C 8 cX8_richest (some .int) X Xr Xt) {x1 x2 : Int} {t0 : Nat} {σ : Sg} (h : if x2 < (σ t0 2) then (∃ v1 : Int, C MX8_worthOf [rV 17 t0, iV x2] σ (.inl [lV v1]) σ ∧ (∃ v2 : Int, C MX8_worthOf [rV 17 t0, iV x1] σ (.inl [lV v2]) σ ∧ (if v2 < v1 then (X 15 [rV 17 t0, iV x2, iV (w32 (x2 + 1))] [] σ) else (X 15 [rV 17 t0, iV x1, iV (w32 (x2 + 1))] [] σ)))) else (Xr [iV x1] σ)) : X 15 [rV 17 t0, iV x1, iV x2] [] σ := by
  refine st_iload_n (pc := 15) hC dX8_richest_15 rfl ?_
  refine st_aload_n (pc := 16) hC dX8_richest_16 rfl (by decide) (by decide) ?_
  refine st_getf (ci := 7) (f := 2) (v := iV (σ t0 2)) (pc := 17) hC dX8_richest_17 fl_8_18 rfl rfl ?_
  refine st_icmp_ge (tg := 45) (pc := 20) hC dX8_richest_20 (by decide) (ite_im h (fun h => ?_) (fun h => ?_))
  · refine st_aload_n (pc := 23) hC dX8_richest_23 rfl (by decide) (by decide) ?_
    refine st_iload_n (pc := 24) hC dX8_richest_24 rfl ?_
    obtain ⟨v1, hq, h⟩ := h
    refine st_invV (As := [iV x2]) (v := [lV v1]) (S := []) (pc := 25) hC dX8_richest_25 cl_8_93 rfl rfl (Nat.le_of_ble_eq_true rfl) cr_X8_worthOf hq ?_
    refine st_aload_n (pc := 28) hC dX8_richest_28 rfl (by decide) (by decide) ?_
    refine st_iload_n (pc := 29) hC dX8_richest_29 rfl ?_
    obtain ⟨v2, hq, h⟩ := h
    refine st_invV (As := [iV x1]) (v := [lV v2]) (S := [lV v1]) (pc := 30) hC dX8_richest_30 cl_8_93 rfl rfl (Nat.le_of_ble_eq_true rfl) cr_X8_worthOf hq ?_
    refine st_lcmp_le (tg := 39) (pc := 33) hC dX8_richest_33 dX8_richest_34 (by decide) (ite_im h (fun h => ?_) (fun h => ?_))
    · refine st_iload_n (pc := 37) hC dX8_richest_37 rfl ?_
      refine st_istore_n (L2 := [rV 17 t0, iV x2, iV x2]) (pc := 38) hC dX8_richest_38 (Nat.le_of_ble_eq_true rfl) rfl ?_
      refine st_iinc (L2 := [rV 17 t0, iV x2, iV (w32 (x2 + 1))]) (pc := 39) hC dX8_richest_39 rfl (Nat.le_of_ble_eq_true rfl) rfl ?_
      refine st_goto (tg := 15) (pc := 42) hC dX8_richest_42 (by decide) ?_
      exact h
    · refine st_iinc (L2 := [rV 17 t0, iV x1, iV (w32 (x2 + 1))]) (pc := 39) hC dX8_richest_39 rfl (Nat.le_of_ble_eq_true rfl) rfl ?_
      refine st_goto (tg := 15) (pc := 42) hC dX8_richest_42 (by decide) ?_
      exact h
  · refine st_iload_n (pc := 45) hC dX8_richest_45 rfl ?_
    exact st_ireturn (pc := 46) hC dX8_richest_46 trivial h
theorem bX8_smoothPrices_0 {C : Nat → List Vv → Sg → Rs → Sg → Prop} {X : Nat → List Vv → List Vv → Sg → Prop} {Xr : List Vv → Sg → Prop} {Xt : Nat → Sg → Prop} (hC : Clo C 8 cX8_smoothPrices (some .int) X Xr Xt) {x1 x2 : Int} {t0 : Nat} {σ : Sg} (h : X 5 [rV 17 t0, iV x1, iV x2, iV 1, iV 0] [] σ) : X 0 [rV 17 t0, iV x1, iV x2, uV, uV] [] σ := by
  refine st_iconst (pc := 0) hC dX8_smoothPrices_0 (by decide) ?_
  refine st_istore_n (L2 := [rV 17 t0, iV x1, iV x2, iV 1, uV]) (pc := 1) hC dX8_smoothPrices_1 (Nat.le_of_ble_eq_true rfl) rfl ?_
  refine st_iconst (pc := 2) hC dX8_smoothPrices_2 (by decide) ?_
  refine st_istore (L2 := [rV 17 t0, iV x1, iV x2, iV 1, iV 0]) (pc := 3) hC dX8_smoothPrices_3 (Nat.le_of_ble_eq_true rfl) rfl ?_
  exact h
theorem bX8_smoothPrices_5 {C : Nat → List Vv → Sg → Rs → Sg → Prop} {X : Nat → List Vv → List Vv → Sg → Prop} {Xr : List Vv → Sg → Prop} {Xt : Nat → Sg → Prop} (hC : Clo C 8 cX8_smoothPrices (some .int) X Xr Xt) {x1 x2 x3 x4 : Int} {t0 : Nat} {σ : Sg} (h : if x4 < (σ t0 1) then (∃ v1 : Int, C MX8_primeOf [rV 17 t0, iV x4] σ (.inl [iV v1]) σ ∧ (if x2 < v1 then (X 5 [rV 17 t0, iV x1, iV x2, iV x3, iV (w32 (x4 + 1))] [] σ) else (∃ v2 : Int, C MX8_held [rV 17 t0, iV x1, iV x4] σ (.inl [iV v2]) σ ∧ (X 5 [rV 17 t0, iV x1, iV x2, iV (w32 (x3 * (w32 (v2 + 1)))), iV (w32 (x4 + 1))] [] σ)))) else (Xr [iV x3] σ)) : X 5 [rV 17 t0, iV x1, iV x2, iV x3, iV x4] [] σ := by
  refine st_iload (pc := 5) hC dX8_smoothPrices_5 rfl ?_
  refine st_aload_n (pc := 7) hC dX8_smoothPrices_7 rfl (by decide) (by decide) ?_
  refine st_getf (ci := 7) (f := 1) (v := iV (σ t0 1)) (pc := 8) hC dX8_smoothPrices_8 fl_8_15 rfl rfl ?_
  refine st_icmp_ge (tg := 42) (pc := 11) hC dX8_smoothPrices_11 (by decide) (ite_im h (fun h => ?_) (fun h => ?_))
  · refine st_aload_n (pc := 14) hC dX8_smoothPrices_14 rfl (by decide) (by decide) ?_
    refine st_iload (pc := 15) hC dX8_smoothPrices_15 rfl ?_
    obtain ⟨v1, hq, h⟩ := h
    refine st_invV (As := [iV x4]) (v := [iV v1]) (S := []) (pc := 17) hC dX8_smoothPrices_17 cl_8_84 rfl rfl (Nat.le_of_ble_eq_true rfl) cr_X8_primeOf hq ?_
    refine st_iload_n (pc := 20) hC dX8_smoothPrices_20 rfl ?_
    refine st_icmp_gt (tg := 36) (pc := 21) hC dX8_smoothPrices_21 (by decide) (ite_im h (fun h => ?_) (fun h => ?_))
    · refine st_iinc (L2 := [rV 17 t0, iV x1, iV x2, iV x3, iV (w32 (x4 + 1))]) (pc := 36) hC dX8_smoothPrices_36 rfl (Nat.le_of_ble_eq_true rfl) rfl ?_
      refine st_goto (tg := 5) (pc := 39) hC dX8_smoothPrices_39 (by decide) ?_
      exact h
    · refine st_iload_n (pc := 24) hC dX8_smoothPrices_24 rfl ?_
      refine st_aload_n (pc := 25) hC dX8_smoothPrices_25 rfl (by decide) (by decide) ?_
      refine st_iload_n (pc := 26) hC dX8_smoothPrices_26 rfl ?_
      refine st_iload (pc := 27) hC dX8_smoothPrices_27 rfl ?_
      obtain ⟨v2, hq, h⟩ := h
      refine st_invV (As := [iV x1, iV x4]) (v := [iV v2]) (S := [iV x3]) (pc := 29) hC dX8_smoothPrices_29 cl_8_69 rfl rfl (Nat.le_of_ble_eq_true rfl) cr_X8_held hq ?_
      refine st_iconst (pc := 32) hC dX8_smoothPrices_32 (by decide) ?_
      refine st_iadd (pc := 33) hC dX8_smoothPrices_33 ?_
      refine st_imul (pc := 34) hC dX8_smoothPrices_34 ?_
      refine st_istore_n (L2 := [rV 17 t0, iV x1, iV x2, iV (w32 (x3 * (w32 (v2 + 1)))), iV x4]) (pc := 35) hC dX8_smoothPrices_35 (Nat.le_of_ble_eq_true rfl) rfl ?_
      refine st_iinc (L2 := [rV 17 t0, iV x1, iV x2, iV (w32 (x3 * (w32 (v2 + 1)))), iV (w32 (x4 + 1))]) (pc := 36) hC dX8_smoothPrices_36 rfl (Nat.le_of_ble_eq_true rfl) rfl ?_
      refine st_goto (tg := 5) (pc := 39) hC dX8_smoothPrices_39 (by decide) ?_
      exact h
  · refine st_iload_n (pc := 42) hC dX8_smoothPrices_42 rfl ?_
    exact st_ireturn (pc := 43) hC dX8_smoothPrices_43 trivial h
theorem bX8_allHold_0 {C : Nat → List Vv → Sg → Rs → Sg → Prop} {X : Nat → List Vv → List Vv → Sg → Prop} {Xr : List Vv → Sg → Prop} {Xt : Nat → Sg → Prop} (hC : Clo C 8 cX8_allHold (some .boolean) X Xr Xt) {x1 : Int} {t0 : Nat} {σ : Sg} (h : X 2 [rV 17 t0, iV x1, rV 1000008 53, iV 0, uV, uV] [] σ) : X 0 [rV 17 t0, iV x1, rV 1000008 53, uV, uV, uV] [] σ := by
  refine st_iconst (pc := 0) hC dX8_allHold_0 (by decide) ?_
  refine st_istore_n (L2 := [rV 17 t0, iV x1, rV 1000008 53, iV 0, uV, uV]) (pc := 1) hC dX8_allHold_1 (Nat.le_of_ble_eq_true rfl) rfl ?_
  exact h
theorem bX8_allHold_2 {C : Nat → List Vv → Sg → Rs → Sg → Prop} {X : Nat → List Vv → List Vv → Sg → Prop} {Xr : List Vv → Sg → Prop} {Xt : Nat → Sg → Prop} (hC : Clo C 8 cX8_allHold (some .boolean) X Xr Xt) {x1 x3 : Int} {t0 : Nat} {σ : Sg} (h : if x3 < 8 then (if x3 < 8 then (X 20 [rV 17 t0, iV x1, rV 1000008 53, iV x3, iV 0, iV 0] [] σ) else (Xr [iV 1] σ)) else (Xr [iV 1] σ)) : X 2 [rV 17 t0, iV x1, rV 1000008 53, iV x3, uV, uV] [] σ := by
  refine st_iload_n (pc := 2) hC dX8_allHold_2 rfl ?_
  refine st_bipush (pc := 3) hC dX8_allHold_3 (by decide) ?_
  refine st_icmp_ge (tg := 70) (pc := 5) hC dX8_allHold_5 (by decide) (ite_im h (fun h => ?_) (fun h => ?_))
  · refine st_iload_n (pc := 8) hC dX8_allHold_8 rfl ?_
    refine st_aload_n (pc := 9) hC dX8_allHold_9 rfl (by decide) (by decide) ?_
    refine st_alen (n := 8) (pc := 10) hC dX8_allHold_10 (by decide) ?_
    refine st_icmp_ge (tg := 70) (pc := 11) hC dX8_allHold_11 (by decide) (ite_im h (fun h => ?_) (fun h => ?_))
    · refine st_iconst (pc := 14) hC dX8_allHold_14 (by decide) ?_
      refine st_istore (L2 := [rV 17 t0, iV x1, rV 1000008 53, iV x3, iV 0, uV]) (pc := 15) hC dX8_allHold_15 (Nat.le_of_ble_eq_true rfl) rfl ?_
      refine st_iconst (pc := 17) hC dX8_allHold_17 (by decide) ?_
      refine st_istore (L2 := [rV 17 t0, iV x1, rV 1000008 53, iV x3, iV 0, iV 0]) (pc := 18) hC dX8_allHold_18 (Nat.le_of_ble_eq_true rfl) rfl ?_
      exact h
    · refine st_iconst (pc := 70) hC dX8_allHold_70 (by decide) ?_
      exact st_ireturn (pc := 71) hC dX8_allHold_71 (Or.inr rfl) h
  · refine st_iconst (pc := 70) hC dX8_allHold_70 (by decide) ?_
    exact st_ireturn (pc := 71) hC dX8_allHold_71 (Or.inr rfl) h
theorem bX8_allHold_20 {C : Nat → List Vv → Sg → Rs → Sg → Prop} {X : Nat → List Vv → List Vv → Sg → Prop} {Xr : List Vv → Sg → Prop} {Xt : Nat → Sg → Prop} (hC : Clo C 8 cX8_allHold (some .boolean) X Xr Xt) {x1 x3 x4 x5 : Int} {t0 : Nat} {σ : Sg} (h : if x5 < (σ t0 2) then (∃ v1 : Int, C MX8_held [rV 17 t0, iV x5, iV x3] σ (.inl [iV v1]) σ ∧ (X 20 [rV 17 t0, iV x1, rV 1000008 53, iV x3, iV (w32 (x4 + (w32 ((iandI (ishrI x1 x5) 1) * v1)))), iV (w32 (x5 + 1))] [] σ)) else ((0 ≤ x3 ∧ x3 < 8) ∧ (if x4 < (σ 53 (x3).toNat) then (Xr [iV 0] σ) else (X 2 [rV 17 t0, iV x1, rV 1000008 53, iV (w32 (x3 + 1)), uV, uV] [] σ)))) : X 20 [rV 17 t0, iV x1, rV 1000008 53, iV x3, iV x4, iV x5] [] σ := by
  refine st_iload (pc := 20) hC dX8_allHold_20 rfl ?_
  refine st_aload_n (pc := 22) hC dX8_allHold_22 rfl (by decide) (by decide) ?_
  refine st_getf (ci := 7) (f := 2) (v := iV (σ t0 2)) (pc := 23) hC dX8_allHold_23 fl_8_18 rfl rfl ?_
  refine st_icmp_ge (tg := 54) (pc := 26) hC dX8_allHold_26 (by decide) (ite_im h (fun h => ?_) (fun h => ?_))
  · refine st_iload (pc := 29) hC dX8_allHold_29 rfl ?_
    refine st_iload_n (pc := 31) hC dX8_allHold_31 rfl ?_
    refine st_iload (pc := 32) hC dX8_allHold_32 rfl ?_
    refine st_ishr (pc := 34) hC dX8_allHold_34 ?_
    refine st_iconst (pc := 35) hC dX8_allHold_35 (by decide) ?_
    refine st_iand (pc := 36) hC dX8_allHold_36 ?_
    refine st_aload_n (pc := 37) hC dX8_allHold_37 rfl (by decide) (by decide) ?_
    refine st_iload (pc := 38) hC dX8_allHold_38 rfl ?_
    refine st_iload_n (pc := 40) hC dX8_allHold_40 rfl ?_
    obtain ⟨v1, hq, h⟩ := h
    refine st_invV (As := [iV x5, iV x3]) (v := [iV v1]) (S := [iV (iandI (ishrI x1 x5) 1), iV x4]) (pc := 41) hC dX8_allHold_41 cl_8_69 rfl rfl (Nat.le_of_ble_eq_true rfl) cr_X8_held hq ?_
    refine st_imul (pc := 44) hC dX8_allHold_44 ?_
    refine st_iadd (pc := 45) hC dX8_allHold_45 ?_
    refine st_istore (L2 := [rV 17 t0, iV x1, rV 1000008 53, iV x3, iV (w32 (x4 + (w32 ((iandI (ishrI x1 x5) 1) * v1)))), iV x5]) (pc := 46) hC dX8_allHold_46 (Nat.le_of_ble_eq_true rfl) rfl ?_
    refine st_iinc (L2 := [rV 17 t0, iV x1, rV 1000008 53, iV x3, iV (w32 (x4 + (w32 ((iandI (ishrI x1 x5) 1) * v1)))), iV (w32 (x5 + 1))]) (pc := 48) hC dX8_allHold_48 rfl (Nat.le_of_ble_eq_true rfl) rfl ?_
    refine st_goto (tg := 20) (pc := 51) hC dX8_allHold_51 (by decide) ?_
    exact h
  · refine st_iload (pc := 54) hC dX8_allHold_54 rfl ?_
    refine st_aload_n (pc := 56) hC dX8_allHold_56 rfl (by decide) (by decide) ?_
    refine st_iload_n (pc := 57) hC dX8_allHold_57 rfl ?_
    obtain ⟨hb, h⟩ := h
    refine st_iald (n := 8) (pc := 58) hC dX8_allHold_58 (by decide) hb ?_
    refine st_icmp_ge (tg := 64) (pc := 59) hC dX8_allHold_59 (by decide) (ite_im h (fun h => ?_) (fun h => ?_))
    · refine st_iconst (pc := 62) hC dX8_allHold_62 (by decide) ?_
      exact st_ireturn (pc := 63) hC dX8_allHold_63 (Or.inl rfl) h
    · refine st_iinc (L2 := [rV 17 t0, iV x1, rV 1000008 53, iV (w32 (x3 + 1)), iV x4, iV x5]) (pc := 64) hC dX8_allHold_64 rfl (Nat.le_of_ble_eq_true rfl) rfl ?_
      refine st_goto (tg := 2) (pc := 67) hC dX8_allHold_67 (by decide) ?_
      exact st_fg (L2 := [rV 17 t0, iV x1, rV 1000008 53, iV (w32 (x3 + 1)), uV, uV]) hC ⟨Or.inl rfl, Or.inl rfl, Or.inl rfl, Or.inl rfl, Or.inr rfl, Or.inr rfl, trivial⟩ h
theorem bX8_shareNoPrime_0 {C : Nat → List Vv → Sg → Rs → Sg → Prop} {X : Nat → List Vv → List Vv → Sg → Prop} {Xr : List Vv → Sg → Prop} {Xt : Nat → Sg → Prop} (hC : Clo C 8 cX8_shareNoPrime (some .boolean) X Xr Xt) {x1 : Int} {t0 : Nat} {σ : Sg} (h : X 4 [rV 17 t0, iV x1, iV 0, iV 0, uV] [] σ) : X 0 [rV 17 t0, iV x1, uV, uV, uV] [] σ := by
  refine st_iconst (pc := 0) hC dX8_shareNoPrime_0 (by decide) ?_
  refine st_istore_n (L2 := [rV 17 t0, iV x1, iV 0, uV, uV]) (pc := 1) hC dX8_shareNoPrime_1 (Nat.le_of_ble_eq_true rfl) rfl ?_
  refine st_iconst (pc := 2) hC dX8_shareNoPrime_2 (by decide) ?_
  refine st_istore_n (L2 := [rV 17 t0, iV x1, iV 0, iV 0, uV]) (pc := 3) hC dX8_shareNoPrime_3 (Nat.le_of_ble_eq_true rfl) rfl ?_
  exact h
theorem bX8_shareNoPrime_4 {C : Nat → List Vv → Sg → Rs → Sg → Prop} {X : Nat → List Vv → List Vv → Sg → Prop} {Xr : List Vv → Sg → Prop} {Xt : Nat → Sg → Prop} (hC : Clo C 8 cX8_shareNoPrime (some .boolean) X Xr Xt) {x1 x2 x3 : Int} {t0 : Nat} {σ : Sg} (h : if x3 < (σ t0 2) then (∃ v1 : Int, C MX8_coinBits [rV 17 t0, iV x3] σ (.inl [iV v1]) σ ∧ (if (iandI x2 (w32 ((iandI (ishrI x1 x3) 1) * v1))) = 0 then (X 4 [rV 17 t0, iV x1, iV (iorI x2 (w32 ((iandI (ishrI x1 x3) 1) * v1))), iV (w32 (x3 + 1)), uV] [] σ) else (Xr [iV 0] σ))) else (Xr [iV 1] σ)) : X 4 [rV 17 t0, iV x1, iV x2, iV x3, uV] [] σ := by
  refine st_iload_n (pc := 4) hC dX8_shareNoPrime_4 rfl ?_
  refine st_aload_n (pc := 5) hC dX8_shareNoPrime_5 rfl (by decide) (by decide) ?_
  refine st_getf (ci := 7) (f := 2) (v := iV (σ t0 2)) (pc := 6) hC dX8_shareNoPrime_6 fl_8_18 rfl rfl ?_
  refine st_icmp_ge (tg := 45) (pc := 9) hC dX8_shareNoPrime_9 (by decide) (ite_im h (fun h => ?_) (fun h => ?_))
  · refine st_iload_n (pc := 12) hC dX8_shareNoPrime_12 rfl ?_
    refine st_iload_n (pc := 13) hC dX8_shareNoPrime_13 rfl ?_
    refine st_ishr (pc := 14) hC dX8_shareNoPrime_14 ?_
    refine st_iconst (pc := 15) hC dX8_shareNoPrime_15 (by decide) ?_
    refine st_iand (pc := 16) hC dX8_shareNoPrime_16 ?_
    refine st_aload_n (pc := 17) hC dX8_shareNoPrime_17 rfl (by decide) (by decide) ?_
    refine st_iload_n (pc := 18) hC dX8_shareNoPrime_18 rfl ?_
    obtain ⟨v1, hq, h⟩ := h
    refine st_invV (As := [iV x3]) (v := [iV v1]) (S := [iV (iandI (ishrI x1 x3) 1)]) (pc := 19) hC dX8_shareNoPrime_19 cl_8_76 rfl rfl (Nat.le_of_ble_eq_true rfl) cr_X8_coinBits hq ?_
    refine st_imul (pc := 22) hC dX8_shareNoPrime_22 ?_
    refine st_istore (L2 := [rV 17 t0, iV x1, iV x2, iV x3, iV (w32 ((iandI (ishrI x1 x3) 1) * v1))]) (pc := 23) hC dX8_shareNoPrime_23 (Nat.le_of_ble_eq_true rfl) rfl ?_
    refine st_iload_n (pc := 25) hC dX8_shareNoPrime_25 rfl ?_
    refine st_iload (pc := 26) hC dX8_shareNoPrime_26 rfl ?_
    refine st_iand (pc := 28) hC dX8_shareNoPrime_28 ?_
    refine st_if_eq (tg := 34) (pc := 29) hC dX8_shareNoPrime_29 (by decide) (ite_im h (fun h => ?_) (fun h => ?_))
    · refine st_iload_n (pc := 34) hC dX8_shareNoPrime_34 rfl ?_
      refine st_iload (pc := 35) hC dX8_shareNoPrime_35 rfl ?_
      refine st_ior (pc := 37) hC dX8_shareNoPrime_37 ?_
      refine st_istore_n (L2 := [rV 17 t0, iV x1, iV (iorI x2 (w32 ((iandI (ishrI x1 x3) 1) * v1))), iV x3, iV (w32 ((iandI (ishrI x1 x3) 1) * v1))]) (pc := 38) hC dX8_shareNoPrime_38 (Nat.le_of_ble_eq_true rfl) rfl ?_
      refine st_iinc (L2 := [rV 17 t0, iV x1, iV (iorI x2 (w32 ((iandI (ishrI x1 x3) 1) * v1))), iV (w32 (x3 + 1)), iV (w32 ((iandI (ishrI x1 x3) 1) * v1))]) (pc := 39) hC dX8_shareNoPrime_39 rfl (Nat.le_of_ble_eq_true rfl) rfl ?_
      refine st_goto (tg := 4) (pc := 42) hC dX8_shareNoPrime_42 (by decide) ?_
      exact st_fg (L2 := [rV 17 t0, iV x1, iV (iorI x2 (w32 ((iandI (ishrI x1 x3) 1) * v1))), iV (w32 (x3 + 1)), uV]) hC ⟨Or.inl rfl, Or.inl rfl, Or.inl rfl, Or.inl rfl, Or.inr rfl, trivial⟩ h
    · refine st_iconst (pc := 32) hC dX8_shareNoPrime_32 (by decide) ?_
      exact st_ireturn (pc := 33) hC dX8_shareNoPrime_33 (Or.inl rfl) h
  · refine st_iconst (pc := 45) hC dX8_shareNoPrime_45 (by decide) ?_
    exact st_ireturn (pc := 46) hC dX8_shareNoPrime_46 (Or.inr rfl) h
theorem bX8_differBySwap_0 {C : Nat → List Vv → Sg → Rs → Sg → Prop} {X : Nat → List Vv → List Vv → Sg → Prop} {Xr : List Vv → Sg → Prop} {Xt : Nat → Sg → Prop} (hC : Clo C 8 cX8_differBySwap (some .long) X Xr Xt) {x1 x2 x3 x4 : Int} {t0 : Nat} {σ : Sg} (h : ∃ v1 : Int, C MX8_worthOf [rV 17 t0, iV x1] σ (.inl [lV v1]) σ ∧ (∃ v2 : Int, C MX8_primeOf [rV 17 t0, iV x3] σ (.inl [iV v2]) σ ∧ (v2 ≠ 0 ∧ (∃ v3 : Int, C MX8_primeOf [rV 17 t0, iV x4] σ (.inl [iV v3]) σ ∧ (∃ v4 : Int, C MX8_worthOf [rV 17 t0, iV x2] σ (.inl [lV v4]) σ ∧ (∃ v5 : Int, C MX8_primeOf [rV 17 t0, iV x4] σ (.inl [iV v5]) σ ∧ (v5 ≠ 0 ∧ (∃ v6 : Int, C MX8_primeOf [rV 17 t0, iV x3] σ (.inl [iV v6]) σ ∧ (Xr [lV (absI (w64 ((w64 ((w64 (v1.tdiv v2)) * v3)) - (w64 ((w64 (v4.tdiv v5)) * v6)))))] σ))))))))) : X 0 [rV 17 t0, iV x1, iV x2, iV x3, iV x4, uV, uV, uV, uV] [] σ := by
  refine st_aload_n (pc := 0) hC dX8_differBySwap_0 rfl (by decide) (by decide) ?_
  refine st_iload_n (pc := 1) hC dX8_differBySwap_1 rfl ?_
  obtain ⟨v1, hq, h⟩ := h
  refine st_invV (As := [iV x1]) (v := [lV v1]) (S := []) (pc := 2) hC dX8_differBySwap_2 cl_8_93 rfl rfl (Nat.le_of_ble_eq_true rfl) cr_X8_worthOf hq ?_
  refine st_aload_n (pc := 5) hC dX8_differBySwap_5 rfl (by decide) (by decide) ?_
  refine st_iload_n (pc := 6) hC dX8_differBySwap_6 rfl ?_
  obtain ⟨v2, hq, h⟩ := h
  refine st_invV (As := [iV x3]) (v := [iV v2]) (S := [lV v1]) (pc := 7) hC dX8_differBySwap_7 cl_8_84 rfl rfl (Nat.le_of_ble_eq_true rfl) cr_X8_primeOf hq ?_
  refine st_i2l (pc := 10) hC dX8_differBySwap_10 ?_
  obtain ⟨h0, h⟩ := h
  refine st_ldiv (pc := 11) hC dX8_differBySwap_11 h0 ?_
  refine st_aload_n (pc := 12) hC dX8_differBySwap_12 rfl (by decide) (by decide) ?_
  refine st_iload (pc := 13) hC dX8_differBySwap_13 rfl ?_
  obtain ⟨v3, hq, h⟩ := h
  refine st_invV (As := [iV x4]) (v := [iV v3]) (S := [lV (w64 (v1.tdiv v2))]) (pc := 15) hC dX8_differBySwap_15 cl_8_84 rfl rfl (Nat.le_of_ble_eq_true rfl) cr_X8_primeOf hq ?_
  refine st_i2l (pc := 18) hC dX8_differBySwap_18 ?_
  refine st_lmul (pc := 19) hC dX8_differBySwap_19 ?_
  refine st_lstore (L2 := [rV 17 t0, iV x1, iV x2, iV x3, iV x4, lV (w64 ((w64 (v1.tdiv v2)) * v3)), uV, uV, uV]) (pc := 20) hC dX8_differBySwap_20 (Nat.le_of_ble_eq_true rfl) rfl ?_
  refine st_aload_n (pc := 22) hC dX8_differBySwap_22 rfl (by decide) (by decide) ?_
  refine st_iload_n (pc := 23) hC dX8_differBySwap_23 rfl ?_
  obtain ⟨v4, hq, h⟩ := h
  refine st_invV (As := [iV x2]) (v := [lV v4]) (S := []) (pc := 24) hC dX8_differBySwap_24 cl_8_93 rfl rfl (Nat.le_of_ble_eq_true rfl) cr_X8_worthOf hq ?_
  refine st_aload_n (pc := 27) hC dX8_differBySwap_27 rfl (by decide) (by decide) ?_
  refine st_iload (pc := 28) hC dX8_differBySwap_28 rfl ?_
  obtain ⟨v5, hq, h⟩ := h
  refine st_invV (As := [iV x4]) (v := [iV v5]) (S := [lV v4]) (pc := 30) hC dX8_differBySwap_30 cl_8_84 rfl rfl (Nat.le_of_ble_eq_true rfl) cr_X8_primeOf hq ?_
  refine st_i2l (pc := 33) hC dX8_differBySwap_33 ?_
  obtain ⟨h0, h⟩ := h
  refine st_ldiv (pc := 34) hC dX8_differBySwap_34 h0 ?_
  refine st_aload_n (pc := 35) hC dX8_differBySwap_35 rfl (by decide) (by decide) ?_
  refine st_iload_n (pc := 36) hC dX8_differBySwap_36 rfl ?_
  obtain ⟨v6, hq, h⟩ := h
  refine st_invV (As := [iV x3]) (v := [iV v6]) (S := [lV (w64 (v4.tdiv v5))]) (pc := 37) hC dX8_differBySwap_37 cl_8_84 rfl rfl (Nat.le_of_ble_eq_true rfl) cr_X8_primeOf hq ?_
  refine st_i2l (pc := 40) hC dX8_differBySwap_40 ?_
  refine st_lmul (pc := 41) hC dX8_differBySwap_41 ?_
  refine st_lstore (L2 := [rV 17 t0, iV x1, iV x2, iV x3, iV x4, lV (w64 ((w64 (v1.tdiv v2)) * v3)), uV, lV (w64 ((w64 (v4.tdiv v5)) * v6)), uV]) (pc := 42) hC dX8_differBySwap_42 (Nat.le_of_ble_eq_true rfl) rfl ?_
  refine st_lload (pc := 44) hC dX8_differBySwap_44 rfl ?_
  refine st_lload (pc := 46) hC dX8_differBySwap_46 rfl ?_
  refine st_lsub (pc := 48) hC dX8_differBySwap_48 ?_
  refine st_labs (pc := 49) hC dX8_differBySwap_49 rfl (Nat.le_of_ble_eq_true rfl) ?_
  exact st_lreturn (pc := 52) hC dX8_differBySwap_52 h
theorem bX8_handOver_0 {C : Nat → List Vv → Sg → Rs → Sg → Prop} {X : Nat → List Vv → List Vv → Sg → Prop} {Xr : List Vv → Sg → Prop} {Xt : Nat → Sg → Prop} (hC : Clo C 8 cX8_handOver (some .int) X Xr Xt) {x1 x2 : Int} {t0 : Nat} {σ : Sg} (h : X 6 [rV 17 t0, iV x1, iV x2, rV 1000008 53, iV 0, iV 0] [] σ) : X 0 [rV 17 t0, iV x1, iV x2, rV 1000008 53, uV, uV] [] σ := by
  refine st_iconst (pc := 0) hC dX8_handOver_0 (by decide) ?_
  refine st_istore (L2 := [rV 17 t0, iV x1, iV x2, rV 1000008 53, iV 0, uV]) (pc := 1) hC dX8_handOver_1 (Nat.le_of_ble_eq_true rfl) rfl ?_
  refine st_iconst (pc := 3) hC dX8_handOver_3 (by decide) ?_
  refine st_istore (L2 := [rV 17 t0, iV x1, iV x2, rV 1000008 53, iV 0, iV 0]) (pc := 4) hC dX8_handOver_4 (Nat.le_of_ble_eq_true rfl) rfl ?_
  exact h
theorem bX8_handOver_6 {C : Nat → List Vv → Sg → Rs → Sg → Prop} {X : Nat → List Vv → List Vv → Sg → Prop} {Xr : List Vv → Sg → Prop} {Xt : Nat → Sg → Prop} (hC : Clo C 8 cX8_handOver (some .int) X Xr Xt) {x1 x2 x4 x5 : Int} {t0 : Nat} {σ : Sg} (h : if x5 < (σ t0 1) then (if x5 < 8 then ((0 ≤ x5 ∧ x5 < 8) ∧ (∃ σ1 : Sg, C MX8_come [rV 17 t0, iV x1, iV x5, iV (w32 (-(σ 53 (x5).toNat)))] σ (.inl []) σ1 ∧ ((0 ≤ x5 ∧ x5 < 8) ∧ (∃ σ2 : Sg, C MX8_come [rV 17 t0, iV x2, iV x5, iV (σ1 53 (x5).toNat)] σ1 (.inl []) σ2 ∧ ((0 ≤ x5 ∧ x5 < 8) ∧ (X 6 [rV 17 t0, iV x1, iV x2, rV 1000008 53, iV (w32 (x4 + (σ2 53 (x5).toNat))), iV (w32 (x5 + 1))] [] σ2)))))) else (Xr [iV x4] σ)) else (Xr [iV x4] σ)) : X 6 [rV 17 t0, iV x1, iV x2, rV 1000008 53, iV x4, iV x5] [] σ := by
  refine st_iload (pc := 6) hC dX8_handOver_6 rfl ?_
  refine st_aload_n (pc := 8) hC dX8_handOver_8 rfl (by decide) (by decide) ?_
  refine st_getf (ci := 7) (f := 1) (v := iV (σ t0 1)) (pc := 9) hC dX8_handOver_9 fl_8_15 rfl rfl ?_
  refine st_icmp_ge (tg := 60) (pc := 12) hC dX8_handOver_12 (by decide) (ite_im h (fun h => ?_) (fun h => ?_))
  · refine st_iload (pc := 15) hC dX8_handOver_15 rfl ?_
    refine st_aload_n (pc := 17) hC dX8_handOver_17 rfl (by decide) (by decide) ?_
    refine st_alen (n := 8) (pc := 18) hC dX8_handOver_18 (by decide) ?_
    refine st_icmp_ge (tg := 60) (pc := 19) hC dX8_handOver_19 (by decide) (ite_im h (fun h => ?_) (fun h => ?_))
    · refine st_aload_n (pc := 22) hC dX8_handOver_22 rfl (by decide) (by decide) ?_
      refine st_iload_n (pc := 23) hC dX8_handOver_23 rfl ?_
      refine st_iload (pc := 24) hC dX8_handOver_24 rfl ?_
      refine st_aload_n (pc := 26) hC dX8_handOver_26 rfl (by decide) (by decide) ?_
      refine st_iload (pc := 27) hC dX8_handOver_27 rfl ?_
      obtain ⟨hb, h⟩ := h
      refine st_iald (n := 8) (pc := 29) hC dX8_handOver_29 (by decide) hb ?_
      refine st_ineg (pc := 30) hC dX8_handOver_30 ?_
      obtain ⟨σ1, hq, h⟩ := h
      refine st_invV (As := [iV x1, iV x5, iV (w32 (-(σ 53 (x5).toNat)))]) (v := []) (S := []) (pc := 31) hC dX8_handOver_31 cl_8_101 rfl rfl (Nat.le_of_ble_eq_true rfl) cr_X8_come hq ?_
      refine st_aload_n (pc := 34) hC dX8_handOver_34 rfl (by decide) (by decide) ?_
      refine st_iload_n (pc := 35) hC dX8_handOver_35 rfl ?_
      refine st_iload (pc := 36) hC dX8_handOver_36 rfl ?_
      refine st_aload_n (pc := 38) hC dX8_handOver_38 rfl (by decide) (by decide) ?_
      refine st_iload (pc := 39) hC dX8_handOver_39 rfl ?_
      obtain ⟨hb, h⟩ := h
      refine st_iald (n := 8) (pc := 41) hC dX8_handOver_41 (by decide) hb ?_
      obtain ⟨σ2, hq, h⟩ := h
      refine st_invV (As := [iV x2, iV x5, iV (σ1 53 (x5).toNat)]) (v := []) (S := []) (pc := 42) hC dX8_handOver_42 cl_8_101 rfl rfl (Nat.le_of_ble_eq_true rfl) cr_X8_come hq ?_
      refine st_iload (pc := 45) hC dX8_handOver_45 rfl ?_
      refine st_aload_n (pc := 47) hC dX8_handOver_47 rfl (by decide) (by decide) ?_
      refine st_iload (pc := 48) hC dX8_handOver_48 rfl ?_
      obtain ⟨hb, h⟩ := h
      refine st_iald (n := 8) (pc := 50) hC dX8_handOver_50 (by decide) hb ?_
      refine st_iadd (pc := 51) hC dX8_handOver_51 ?_
      refine st_istore (L2 := [rV 17 t0, iV x1, iV x2, rV 1000008 53, iV (w32 (x4 + (σ2 53 (x5).toNat))), iV x5]) (pc := 52) hC dX8_handOver_52 (Nat.le_of_ble_eq_true rfl) rfl ?_
      refine st_iinc (L2 := [rV 17 t0, iV x1, iV x2, rV 1000008 53, iV (w32 (x4 + (σ2 53 (x5).toNat))), iV (w32 (x5 + 1))]) (pc := 54) hC dX8_handOver_54 rfl (Nat.le_of_ble_eq_true rfl) rfl ?_
      refine st_goto (tg := 6) (pc := 57) hC dX8_handOver_57 (by decide) ?_
      exact h
    · refine st_iload (pc := 60) hC dX8_handOver_60 rfl ?_
      exact st_ireturn (pc := 62) hC dX8_handOver_62 trivial h
  · refine st_iload (pc := 60) hC dX8_handOver_60 rfl ?_
    exact st_ireturn (pc := 62) hC dX8_handOver_62 trivial h
theorem bX8_isSidePlace_0 {C : Nat → List Vv → Sg → Rs → Sg → Prop} {X : Nat → List Vv → List Vv → Sg → Prop} {Xr : List Vv → Sg → Prop} {Xt : Nat → Sg → Prop} (hC : Clo C 8 cX8_isSidePlace (some .boolean) X Xr Xt) {x0 x1 x2 : Int} {σ : Sg} (h : if x0 < 0 then (Xr [iV 0] σ) else (if x0 < 6 then (if x1 = 0 then (if x2 < 0 then (Xr [iV 0] σ) else (if x2 < 8 then (Xr [iV 1] σ) else (Xr [iV 0] σ))) else (if x1 = 1 then (if x2 < 0 then (Xr [iV 0] σ) else (if x2 < 8 then (Xr [iV 1] σ) else (Xr [iV 0] σ))) else (Xr [iV 0] σ))) else (Xr [iV 0] σ))) : X 0 [iV x0, iV x1, iV x2] [] σ := by
  refine st_iload_n (pc := 0) hC dX8_isSidePlace_0 rfl ?_
  refine st_if_lt (tg := 33) (pc := 1) hC dX8_isSidePlace_1 (by decide) (ite_im h (fun h => ?_) (fun h => ?_))
  · refine st_iconst (pc := 33) hC dX8_isSidePlace_33 (by decide) ?_
    exact st_ireturn (pc := 34) hC dX8_isSidePlace_34 (Or.inl rfl) h
  · refine st_iload_n (pc := 4) hC dX8_isSidePlace_4 rfl ?_
    refine st_bipush (pc := 5) hC dX8_isSidePlace_5 (by decide) ?_
    refine st_icmp_ge (tg := 33) (pc := 7) hC dX8_isSidePlace_7 (by decide) (ite_im h (fun h => ?_) (fun h => ?_))
    · refine st_iload_n (pc := 10) hC dX8_isSidePlace_10 rfl ?_
      refine st_if_eq (tg := 19) (pc := 11) hC dX8_isSidePlace_11 (by decide) (ite_im h (fun h => ?_) (fun h => ?_))
      · refine st_iload_n (pc := 19) hC dX8_isSidePlace_19 rfl ?_
        refine st_if_lt (tg := 33) (pc := 20) hC dX8_isSidePlace_20 (by decide) (ite_im h (fun h => ?_) (fun h => ?_))
        · refine st_iconst (pc := 33) hC dX8_isSidePlace_33 (by decide) ?_
          exact st_ireturn (pc := 34) hC dX8_isSidePlace_34 (Or.inl rfl) h
        · refine st_iload_n (pc := 23) hC dX8_isSidePlace_23 rfl ?_
          refine st_bipush (pc := 24) hC dX8_isSidePlace_24 (by decide) ?_
          refine st_icmp_ge (tg := 33) (pc := 26) hC dX8_isSidePlace_26 (by decide) (ite_im h (fun h => ?_) (fun h => ?_))
          · refine st_iconst (pc := 29) hC dX8_isSidePlace_29 (by decide) ?_
            refine st_goto (tg := 34) (pc := 30) hC dX8_isSidePlace_30 (by decide) ?_
            exact st_ireturn (pc := 34) hC dX8_isSidePlace_34 (Or.inr rfl) h
          · refine st_iconst (pc := 33) hC dX8_isSidePlace_33 (by decide) ?_
            exact st_ireturn (pc := 34) hC dX8_isSidePlace_34 (Or.inl rfl) h
      · refine st_iload_n (pc := 14) hC dX8_isSidePlace_14 rfl ?_
        refine st_iconst (pc := 15) hC dX8_isSidePlace_15 (by decide) ?_
        refine st_icmp_ne (tg := 33) (pc := 16) hC dX8_isSidePlace_16 (by decide) (ite_im h (fun h => ?_) (fun h => ?_))
        · refine st_iload_n (pc := 19) hC dX8_isSidePlace_19 rfl ?_
          refine st_if_lt (tg := 33) (pc := 20) hC dX8_isSidePlace_20 (by decide) (ite_im h (fun h => ?_) (fun h => ?_))
          · refine st_iconst (pc := 33) hC dX8_isSidePlace_33 (by decide) ?_
            exact st_ireturn (pc := 34) hC dX8_isSidePlace_34 (Or.inl rfl) h
          · refine st_iload_n (pc := 23) hC dX8_isSidePlace_23 rfl ?_
            refine st_bipush (pc := 24) hC dX8_isSidePlace_24 (by decide) ?_
            refine st_icmp_ge (tg := 33) (pc := 26) hC dX8_isSidePlace_26 (by decide) (ite_im h (fun h => ?_) (fun h => ?_))
            · refine st_iconst (pc := 29) hC dX8_isSidePlace_29 (by decide) ?_
              refine st_goto (tg := 34) (pc := 30) hC dX8_isSidePlace_30 (by decide) ?_
              exact st_ireturn (pc := 34) hC dX8_isSidePlace_34 (Or.inr rfl) h
            · refine st_iconst (pc := 33) hC dX8_isSidePlace_33 (by decide) ?_
              exact st_ireturn (pc := 34) hC dX8_isSidePlace_34 (Or.inl rfl) h
        · refine st_iconst (pc := 33) hC dX8_isSidePlace_33 (by decide) ?_
          exact st_ireturn (pc := 34) hC dX8_isSidePlace_34 (Or.inl rfl) h
    · refine st_iconst (pc := 33) hC dX8_isSidePlace_33 (by decide) ?_
      exact st_ireturn (pc := 34) hC dX8_isSidePlace_34 (Or.inl rfl) h
theorem bX8_onSide_0 {C : Nat → List Vv → Sg → Rs → Sg → Prop} {X : Nat → List Vv → List Vv → Sg → Prop} {Xr : List Vv → Sg → Prop} {Xt : Nat → Sg → Prop} (hC : Clo C 8 cX8_onSide (some .int) X Xr Xt) {x1 x2 x3 : Int} {t0 : Nat} {σ : Sg} (h : ∃ v1 : Int, C MX8_isSidePlace [iV x1, iV x2, iV x3] σ (.inl [iV v1]) σ ∧ (if v1 = 0 then (Xr [iV 0] σ) else ((0 ≤ (w32 ((w32 ((w32 ((w32 (x1 * 2)) + x2)) * 8)) + x3)) ∧ (w32 ((w32 ((w32 ((w32 (x1 * 2)) + x2)) * 8)) + x3)) < 96) ∧ (Xr [iV (σ (t0 + 5) ((w32 ((w32 ((w32 ((w32 (x1 * 2)) + x2)) * 8)) + x3))).toNat)] σ)))) : X 0 [rV 17 t0, iV x1, iV x2, iV x3] [] σ := by
  refine st_iload_n (pc := 0) hC dX8_onSide_0 rfl ?_
  refine st_iload_n (pc := 1) hC dX8_onSide_1 rfl ?_
  refine st_iload_n (pc := 2) hC dX8_onSide_2 rfl ?_
  obtain ⟨v1, hq, h⟩ := h
  refine st_invS (As := [iV x1, iV x2, iV x3]) (v := [iV v1]) (S := []) (pc := 3) hC dX8_onSide_3 cl_8_105 rfl rfl (Nat.le_of_ble_eq_true rfl) hq ?_
  refine st_if_eq (tg := 27) (pc := 6) hC dX8_onSide_6 (by decide) (ite_im h (fun h => ?_) (fun h => ?_))
  · refine st_iconst (pc := 27) hC dX8_onSide_27 (by decide) ?_
    exact st_ireturn (pc := 28) hC dX8_onSide_28 trivial h
  · refine st_aload_n (pc := 9) hC dX8_onSide_9 rfl (by decide) (by decide) ?_
    refine st_getf (ci := 7) (f := 7) (v := rV 1000096 (t0 + 5)) (pc := 10) hC dX8_onSide_10 fl_8_38 rfl rfl ?_
    refine st_iload_n (pc := 13) hC dX8_onSide_13 rfl ?_
    refine st_iconst (pc := 14) hC dX8_onSide_14 (by decide) ?_
    refine st_imul (pc := 15) hC dX8_onSide_15 ?_
    refine st_iload_n (pc := 16) hC dX8_onSide_16 rfl ?_
    refine st_iadd (pc := 17) hC dX8_onSide_17 ?_
    refine st_bipush (pc := 18) hC dX8_onSide_18 (by decide) ?_
    refine st_imul (pc := 20) hC dX8_onSide_20 ?_
    refine st_iload_n (pc := 21) hC dX8_onSide_21 rfl ?_
    refine st_iadd (pc := 22) hC dX8_onSide_22 ?_
    obtain ⟨hb, h⟩ := h
    refine st_iald (n := 96) (pc := 23) hC dX8_onSide_23 (by decide) hb ?_
    refine st_goto (tg := 28) (pc := 24) hC dX8_onSide_24 (by decide) ?_
    exact st_ireturn (pc := 28) hC dX8_onSide_28 trivial h
theorem bX8_addToSide_0 {C : Nat → List Vv → Sg → Rs → Sg → Prop} {X : Nat → List Vv → List Vv → Sg → Prop} {Xr : List Vv → Sg → Prop} {Xt : Nat → Sg → Prop} (hC : Clo C 8 cX8_addToSide none X Xr Xt) {x1 x2 x3 : Int} {t0 : Nat} {σ : Sg} (h : ∃ v1 : Int, C MX8_isSidePlace [iV x1, iV x2, iV x3] σ (.inl [iV v1]) σ ∧ (if v1 = 0 then (Xr [] σ) else ((0 ≤ (w32 ((w32 ((w32 ((w32 (x1 * 2)) + x2)) * 8)) + x3)) ∧ (w32 ((w32 ((w32 ((w32 (x1 * 2)) + x2)) * 8)) + x3)) < 96) ∧ ((0 ≤ (w32 ((w32 ((w32 ((w32 (x1 * 2)) + x2)) * 8)) + x3)) ∧ (w32 ((w32 ((w32 ((w32 (x1 * 2)) + x2)) * 8)) + x3)) < 96) ∧ (Xr [] (upS σ (t0 + 5) ((w32 ((w32 ((w32 ((w32 (x1 * 2)) + x2)) * 8)) + x3))).toNat (w32 ((σ (t0 + 5) ((w32 ((w32 ((w32 ((w32 (x1 * 2)) + x2)) * 8)) + x3))).toNat) + 1)))))))) : X 0 [rV 17 t0, iV x1, iV x2, iV x3] [] σ := by
  refine st_iload_n (pc := 0) hC dX8_addToSide_0 rfl ?_
  refine st_iload_n (pc := 1) hC dX8_addToSide_1 rfl ?_
  refine st_iload_n (pc := 2) hC dX8_addToSide_2 rfl ?_
  obtain ⟨v1, hq, h⟩ := h
  refine st_invS (As := [iV x1, iV x2, iV x3]) (v := [iV v1]) (S := []) (pc := 3) hC dX8_addToSide_3 cl_8_105 rfl rfl (Nat.le_of_ble_eq_true rfl) hq ?_
  refine st_if_eq (tg := 28) (pc := 6) hC dX8_addToSide_6 (by decide) (ite_im h (fun h => ?_) (fun h => ?_))
  · exact st_return (pc := 28) hC dX8_addToSide_28 h
  · refine st_aload_n (pc := 9) hC dX8_addToSide_9 rfl (by decide) (by decide) ?_
    refine st_getf (ci := 7) (f := 7) (v := rV 1000096 (t0 + 5)) (pc := 10) hC dX8_addToSide_10 fl_8_38 rfl rfl ?_
    refine st_iload_n (pc := 13) hC dX8_addToSide_13 rfl ?_
    refine st_iconst (pc := 14) hC dX8_addToSide_14 (by decide) ?_
    refine st_imul (pc := 15) hC dX8_addToSide_15 ?_
    refine st_iload_n (pc := 16) hC dX8_addToSide_16 rfl ?_
    refine st_iadd (pc := 17) hC dX8_addToSide_17 ?_
    refine st_bipush (pc := 18) hC dX8_addToSide_18 (by decide) ?_
    refine st_imul (pc := 20) hC dX8_addToSide_20 ?_
    refine st_iload_n (pc := 21) hC dX8_addToSide_21 rfl ?_
    refine st_iadd (pc := 22) hC dX8_addToSide_22 ?_
    refine st_dup2IR (pc := 23) hC dX8_addToSide_23 (by decide) (by decide) ?_
    obtain ⟨hb, h⟩ := h
    refine st_iald (n := 96) (pc := 24) hC dX8_addToSide_24 (by decide) hb ?_
    refine st_iconst (pc := 25) hC dX8_addToSide_25 (by decide) ?_
    refine st_iadd (pc := 26) hC dX8_addToSide_26 ?_
    obtain ⟨hb, h⟩ := h
    refine st_iast (n := 96) (pc := 27) hC dX8_addToSide_27 (by decide) hb ?_
    exact st_return (pc := 28) hC dX8_addToSide_28 h
theorem bX8_sideWorth_0 {C : Nat → List Vv → Sg → Rs → Sg → Prop} {X : Nat → List Vv → List Vv → Sg → Prop} {Xr : List Vv → Sg → Prop} {Xt : Nat → Sg → Prop} (hC : Clo C 8 cX8_sideWorth (some .int) X Xr Xt) {x1 x2 : Int} {t0 : Nat} {σ : Sg} (h : X 5 [rV 17 t0, iV x1, iV x2, lV 1, uV, iV 0] [] σ) : X 0 [rV 17 t0, iV x1, iV x2, uV, uV, uV] [] σ := by
  refine st_lconst1 (pc := 0) hC dX8_sideWorth_0 ?_
  refine st_lstore_n (L2 := [rV 17 t0, iV x1, iV x2, lV 1, uV, uV]) (pc := 1) hC dX8_sideWorth_1 (Nat.le_of_ble_eq_true rfl) rfl ?_
  refine st_iconst (pc := 2) hC dX8_sideWorth_2 (by decide) ?_
  refine st_istore (L2 := [rV 17 t0, iV x1, iV x2, lV 1, uV, iV 0]) (pc := 3) hC dX8_sideWorth_3 (Nat.le_of_ble_eq_true rfl) rfl ?_
  exact h
theorem bX8_sideWorth_5 {C : Nat → List Vv → Sg → Rs → Sg → Prop} {X : Nat → List Vv → List Vv → Sg → Prop} {Xr : List Vv → Sg → Prop} {Xt : Nat → Sg → Prop} (hC : Clo C 8 cX8_sideWorth (some .int) X Xr Xt) {x1 x2 x3 x5 : Int} {t0 : Nat} {σ : Sg} (h : if x5 < (σ t0 1) then (∃ v1 : Int, C MX8_primeOf [rV 17 t0, iV x5] σ (.inl [iV v1]) σ ∧ (∃ v2 : Int, C MX8_onSide [rV 17 t0, iV x1, iV x2, iV x5] σ (.inl [iV v2]) σ ∧ (∃ v3 : Int, C MX3_whole [iV v1, iV v2] σ (.inl [lV v3]) σ ∧ (X 5 [rV 17 t0, iV x1, iV x2, lV (w64 (x3 * v3)), uV, iV (w32 (x5 + 1))] [] σ)))) else (Xr [iV (w32 x3)] σ)) : X 5 [rV 17 t0, iV x1, iV x2, lV x3, uV, iV x5] [] σ := by
  refine st_iload (pc := 5) hC dX8_sideWorth_5 rfl ?_
  refine st_aload_n (pc := 7) hC dX8_sideWorth_7 rfl (by decide) (by decide) ?_
  refine st_getf (ci := 7) (f := 1) (v := iV (σ t0 1)) (pc := 8) hC dX8_sideWorth_8 fl_8_15 rfl rfl ?_
  refine st_icmp_ge (tg := 40) (pc := 11) hC dX8_sideWorth_11 (by decide) (ite_im h (fun h => ?_) (fun h => ?_))
  · refine st_lload_n (pc := 14) hC dX8_sideWorth_14 rfl ?_
    refine st_aload_n (pc := 15) hC dX8_sideWorth_15 rfl (by decide) (by decide) ?_
    refine st_iload (pc := 16) hC dX8_sideWorth_16 rfl ?_
    obtain ⟨v1, hq, h⟩ := h
    refine st_invV (As := [iV x5]) (v := [iV v1]) (S := [lV x3]) (pc := 18) hC dX8_sideWorth_18 cl_8_84 rfl rfl (Nat.le_of_ble_eq_true rfl) cr_X8_primeOf hq ?_
    refine st_aload_n (pc := 21) hC dX8_sideWorth_21 rfl (by decide) (by decide) ?_
    refine st_iload_n (pc := 22) hC dX8_sideWorth_22 rfl ?_
    refine st_iload_n (pc := 23) hC dX8_sideWorth_23 rfl ?_
    refine st_iload (pc := 24) hC dX8_sideWorth_24 rfl ?_
    obtain ⟨v2, hq, h⟩ := h
    refine st_invV (As := [iV x1, iV x2, iV x5]) (v := [iV v2]) (S := [iV v1, lV x3]) (pc := 26) hC dX8_sideWorth_26 cl_8_109 rfl rfl (Nat.le_of_ble_eq_true rfl) cr_X8_onSide hq ?_
    obtain ⟨v3, hq, h⟩ := h
    refine st_invS (As := [iV v1, iV v2]) (v := [lV v3]) (S := [lV x3]) (pc := 29) hC dX8_sideWorth_29 cl_8_87 rfl rfl (Nat.le_of_ble_eq_true rfl) hq ?_
    refine st_lmul (pc := 32) hC dX8_sideWorth_32 ?_
    refine st_lstore_n (L2 := [rV 17 t0, iV x1, iV x2, lV (w64 (x3 * v3)), uV, iV x5]) (pc := 33) hC dX8_sideWorth_33 (Nat.le_of_ble_eq_true rfl) rfl ?_
    refine st_iinc (L2 := [rV 17 t0, iV x1, iV x2, lV (w64 (x3 * v3)), uV, iV (w32 (x5 + 1))]) (pc := 34) hC dX8_sideWorth_34 rfl (Nat.le_of_ble_eq_true rfl) rfl ?_
    refine st_goto (tg := 5) (pc := 37) hC dX8_sideWorth_37 (by decide) ?_
    exact h
  · refine st_lload_n (pc := 40) hC dX8_sideWorth_40 rfl ?_
    refine st_l2i (pc := 41) hC dX8_sideWorth_41 ?_
    exact st_ireturn (pc := 42) hC dX8_sideWorth_42 trivial h
theorem bX8_changeFault_0 {C : Nat → List Vv → Sg → Rs → Sg → Prop} {X : Nat → List Vv → List Vv → Sg → Prop} {Xr : List Vv → Sg → Prop} {Xt : Nat → Sg → Prop} (hC : Clo C 8 cX8_changeFault (some .int) X Xr Xt) {x1 x2 : Int} {t0 : Nat} {σ : Sg} (h : ∃ v1 : Int, C MX8_many [rV 17 t0, iV x1] σ (.inl [iV v1]) σ ∧ (X 9 [rV 17 t0, iV x1, iV x2, iV v1, iV 0] [] σ)) : X 0 [rV 17 t0, iV x1, iV x2, uV, uV] [] σ := by
  refine st_aload_n (pc := 0) hC dX8_changeFault_0 rfl (by decide) (by decide) ?_
  refine st_iload_n (pc := 1) hC dX8_changeFault_1 rfl ?_
  obtain ⟨v1, hq, h⟩ := h
  refine st_invV (As := [iV x1]) (v := [iV v1]) (S := []) (pc := 2) hC dX8_changeFault_2 cl_8_72 rfl rfl (Nat.le_of_ble_eq_true rfl) cr_X8_many hq ?_
  refine st_istore_n (L2 := [rV 17 t0, iV x1, iV x2, iV v1, uV]) (pc := 5) hC dX8_changeFault_5 (Nat.le_of_ble_eq_true rfl) rfl ?_
  refine st_iconst (pc := 6) hC dX8_changeFault_6 (by decide) ?_
  refine st_istore (L2 := [rV 17 t0, iV x1, iV x2, iV v1, iV 0]) (pc := 7) hC dX8_changeFault_7 (Nat.le_of_ble_eq_true rfl) rfl ?_
  exact h
theorem bX8_changeFault_9 {C : Nat → List Vv → Sg → Rs → Sg → Prop} {X : Nat → List Vv → List Vv → Sg → Prop} {Xr : List Vv → Sg → Prop} {Xt : Nat → Sg → Prop} (hC : Clo C 8 cX8_changeFault (some .int) X Xr Xt) {x1 x2 x3 x4 : Int} {t0 : Nat} {σ : Sg} (h : if x4 < (σ t0 1) then (∃ v1 : Int, C MX8_held [rV 17 t0, iV x1, iV x4] σ (.inl [iV v1]) σ ∧ (∃ v2 : Int, C MX8_onSide [rV 17 t0, iV x2, iV 0, iV x4] σ (.inl [iV v2]) σ ∧ (if v1 < v2 then (Xr [iV 2] σ) else (∃ v3 : Int, C MX8_onSide [rV 17 t0, iV x2, iV 1, iV x4] σ (.inl [iV v3]) σ ∧ (∃ v4 : Int, C MX8_onSide [rV 17 t0, iV x2, iV 0, iV x4] σ (.inl [iV v4]) σ ∧ (X 9 [rV 17 t0, iV x1, iV x2, iV (w32 (x3 + (w32 (v3 - v4)))), iV (w32 (x4 + 1))] [] σ)))))) else (if (9 : Int) < x3 then (Xr [iV 3] σ) else (Xr [iV 0] σ))) : X 9 [rV 17 t0, iV x1, iV x2, iV x3, iV x4] [] σ := by
  refine st_iload (pc := 9) hC dX8_changeFault_9 rfl ?_
  refine st_aload_n (pc := 11) hC dX8_changeFault_11 rfl (by decide) (by decide) ?_
  refine st_getf (ci := 7) (f := 1) (v := iV (σ t0 1)) (pc := 12) hC dX8_changeFault_12 fl_8_15 rfl rfl ?_
  refine st_icmp_ge (tg := 64) (pc := 15) hC dX8_changeFault_15 (by decide) (ite_im h (fun h => ?_) (fun h => ?_))
  · refine st_aload_n (pc := 18) hC dX8_changeFault_18 rfl (by decide) (by decide) ?_
    refine st_iload_n (pc := 19) hC dX8_changeFault_19 rfl ?_
    refine st_iload (pc := 20) hC dX8_changeFault_20 rfl ?_
    obtain ⟨v1, hq, h⟩ := h
    refine st_invV (As := [iV x1, iV x4]) (v := [iV v1]) (S := []) (pc := 22) hC dX8_changeFault_22 cl_8_69 rfl rfl (Nat.le_of_ble_eq_true rfl) cr_X8_held hq ?_
    refine st_aload_n (pc := 25) hC dX8_changeFault_25 rfl (by decide) (by decide) ?_
    refine st_iload_n (pc := 26) hC dX8_changeFault_26 rfl ?_
    refine st_iconst (pc := 27) hC dX8_changeFault_27 (by decide) ?_
    refine st_iload (pc := 28) hC dX8_changeFault_28 rfl ?_
    obtain ⟨v2, hq, h⟩ := h
    refine st_invV (As := [iV x2, iV 0, iV x4]) (v := [iV v2]) (S := [iV v1]) (pc := 30) hC dX8_changeFault_30 cl_8_109 rfl rfl (Nat.le_of_ble_eq_true rfl) cr_X8_onSide hq ?_
    refine st_icmp_ge (tg := 38) (pc := 33) hC dX8_changeFault_33 (by decide) (ite_im h (fun h => ?_) (fun h => ?_))
    · refine st_iconst (pc := 36) hC dX8_changeFault_36 (by decide) ?_
      exact st_ireturn (pc := 37) hC dX8_changeFault_37 trivial h
    · refine st_iload_n (pc := 38) hC dX8_changeFault_38 rfl ?_
      refine st_aload_n (pc := 39) hC dX8_changeFault_39 rfl (by decide) (by decide) ?_
      refine st_iload_n (pc := 40) hC dX8_changeFault_40 rfl ?_
      refine st_iconst (pc := 41) hC dX8_changeFault_41 (by decide) ?_
      refine st_iload (pc := 42) hC dX8_changeFault_42 rfl ?_
      obtain ⟨v3, hq, h⟩ := h
      refine st_invV (As := [iV x2, iV 1, iV x4]) (v := [iV v3]) (S := [iV x3]) (pc := 44) hC dX8_changeFault_44 cl_8_109 rfl rfl (Nat.le_of_ble_eq_true rfl) cr_X8_onSide hq ?_
      refine st_aload_n (pc := 47) hC dX8_changeFault_47 rfl (by decide) (by decide) ?_
      refine st_iload_n (pc := 48) hC dX8_changeFault_48 rfl ?_
      refine st_iconst (pc := 49) hC dX8_changeFault_49 (by decide) ?_
      refine st_iload (pc := 50) hC dX8_changeFault_50 rfl ?_
      obtain ⟨v4, hq, h⟩ := h
      refine st_invV (As := [iV x2, iV 0, iV x4]) (v := [iV v4]) (S := [iV v3, iV x3]) (pc := 52) hC dX8_changeFault_52 cl_8_109 rfl rfl (Nat.le_of_ble_eq_true rfl) cr_X8_onSide hq ?_
      refine st_isub (pc := 55) hC dX8_changeFault_55 ?_
      refine st_iadd (pc := 56) hC dX8_changeFault_56 ?_
      refine st_istore_n (L2 := [rV 17 t0, iV x1, iV x2, iV (w32 (x3 + (w32 (v3 - v4)))), iV x4]) (pc := 57) hC dX8_changeFault_57 (Nat.le_of_ble_eq_true rfl) rfl ?_
      refine st_iinc (L2 := [rV 17 t0, iV x1, iV x2, iV (w32 (x3 + (w32 (v3 - v4)))), iV (w32 (x4 + 1))]) (pc := 58) hC dX8_changeFault_58 rfl (Nat.le_of_ble_eq_true rfl) rfl ?_
      refine st_goto (tg := 9) (pc := 61) hC dX8_changeFault_61 (by decide) ?_
      exact h
  · refine st_iload_n (pc := 64) hC dX8_changeFault_64 rfl ?_
    refine st_bipush (pc := 65) hC dX8_changeFault_65 (by decide) ?_
    refine st_icmp_le (tg := 74) (pc := 67) hC dX8_changeFault_67 (by decide) (ite_im h (fun h => ?_) (fun h => ?_))
    · refine st_iconst (pc := 70) hC dX8_changeFault_70 (by decide) ?_
      refine st_goto (tg := 75) (pc := 71) hC dX8_changeFault_71 (by decide) ?_
      exact st_ireturn (pc := 75) hC dX8_changeFault_75 trivial h
    · refine st_iconst (pc := 74) hC dX8_changeFault_74 (by decide) ?_
      exact st_ireturn (pc := 75) hC dX8_changeFault_75 trivial h
theorem bX8_makeChange_0 {C : Nat → List Vv → Sg → Rs → Sg → Prop} {X : Nat → List Vv → List Vv → Sg → Prop} {Xr : List Vv → Sg → Prop} {Xt : Nat → Sg → Prop} (hC : Clo C 8 cX8_makeChange (some .int) X Xr Xt) {x1 x2 : Int} {t0 : Nat} {σ : Sg} (h : X 2 [rV 17 t0, iV x1, iV x2, iV 0] [] σ) : X 0 [rV 17 t0, iV x1, iV x2, uV] [] σ := by
  refine st_iconst (pc := 0) hC dX8_makeChange_0 (by decide) ?_
  refine st_istore_n (L2 := [rV 17 t0, iV x1, iV x2, iV 0]) (pc := 1) hC dX8_makeChange_1 (Nat.le_of_ble_eq_true rfl) rfl ?_
  exact h
theorem bX8_makeChange_2 {C : Nat → List Vv → Sg → Rs → Sg → Prop} {X : Nat → List Vv → List Vv → Sg → Prop} {Xr : List Vv → Sg → Prop} {Xt : Nat → Sg → Prop} (hC : Clo C 8 cX8_makeChange (some .int) X Xr Xt) {x1 x2 x3 : Int} {t0 : Nat} {σ : Sg} (h : if x3 < (σ t0 1) then (∃ v1 : Int, C MX8_onSide [rV 17 t0, iV x2, iV 1, iV x3] σ (.inl [iV v1]) σ ∧ (∃ v2 : Int, C MX8_onSide [rV 17 t0, iV x2, iV 0, iV x3] σ (.inl [iV v2]) σ ∧ (∃ σ3 : Sg, C MX8_come [rV 17 t0, iV x1, iV x3, iV (w32 (v1 - v2))] σ (.inl []) σ3 ∧ (X 2 [rV 17 t0, iV x1, iV x2, iV (w32 (x3 + 1))] [] σ3)))) else (∃ v4 : Int, C MX8_many [rV 17 t0, iV x1] σ (.inl [iV v4]) σ ∧ (Xr [iV v4] σ))) : X 2 [rV 17 t0, iV x1, iV x2, iV x3] [] σ := by
  refine st_iload_n (pc := 2) hC dX8_makeChange_2 rfl ?_
  refine st_aload_n (pc := 3) hC dX8_makeChange_3 rfl (by decide) (by decide) ?_
  refine st_getf (ci := 7) (f := 1) (v := iV (σ t0 1)) (pc := 4) hC dX8_makeChange_4 fl_8_15 rfl rfl ?_
  refine st_icmp_ge (tg := 37) (pc := 7) hC dX8_makeChange_7 (by decide) (ite_im h (fun h => ?_) (fun h => ?_))
  · refine st_aload_n (pc := 10) hC dX8_makeChange_10 rfl (by decide) (by decide) ?_
    refine st_iload_n (pc := 11) hC dX8_makeChange_11 rfl ?_
    refine st_iload_n (pc := 12) hC dX8_makeChange_12 rfl ?_
    refine st_aload_n (pc := 13) hC dX8_makeChange_13 rfl (by decide) (by decide) ?_
    refine st_iload_n (pc := 14) hC dX8_makeChange_14 rfl ?_
    refine st_iconst (pc := 15) hC dX8_makeChange_15 (by decide) ?_
    refine st_iload_n (pc := 16) hC dX8_makeChange_16 rfl ?_
    obtain ⟨v1, hq, h⟩ := h
    refine st_invV (As := [iV x2, iV 1, iV x3]) (v := [iV v1]) (S := [iV x3, iV x1, rV 17 t0]) (pc := 17) hC dX8_makeChange_17 cl_8_109 rfl rfl (Nat.le_of_ble_eq_true rfl) cr_X8_onSide hq ?_
    refine st_aload_n (pc := 20) hC dX8_makeChange_20 rfl (by decide) (by decide) ?_
    refine st_iload_n (pc := 21) hC dX8_makeChange_21 rfl ?_
    refine st_iconst (pc := 22) hC dX8_makeChange_22 (by decide) ?_
    refine st_iload_n (pc := 23) hC dX8_makeChange_23 rfl ?_
    obtain ⟨v2, hq, h⟩ := h
    refine st_invV (As := [iV x2, iV 0, iV x3]) (v := [iV v2]) (S := [iV v1, iV x3, iV x1, rV 17 t0]) (pc := 24) hC dX8_makeChange_24 cl_8_109 rfl rfl (Nat.le_of_ble_eq_true rfl) cr_X8_onSide hq ?_
    refine st_isub (pc := 27) hC dX8_makeChange_27 ?_
    obtain ⟨σ3, hq, h⟩ := h
    refine st_invV (As := [iV x1, iV x3, iV (w32 (v1 - v2))]) (v := []) (S := []) (pc := 28) hC dX8_makeChange_28 cl_8_101 rfl rfl (Nat.le_of_ble_eq_true rfl) cr_X8_come hq ?_
    refine st_iinc (L2 := [rV 17 t0, iV x1, iV x2, iV (w32 (x3 + 1))]) (pc := 31) hC dX8_makeChange_31 rfl (Nat.le_of_ble_eq_true rfl) rfl ?_
    refine st_goto (tg := 2) (pc := 34) hC dX8_makeChange_34 (by decide) ?_
    exact h
  · refine st_aload_n (pc := 37) hC dX8_makeChange_37 rfl (by decide) (by decide) ?_
    refine st_iload_n (pc := 38) hC dX8_makeChange_38 rfl ?_
    obtain ⟨v4, hq, h⟩ := h
    refine st_invV (As := [iV x1]) (v := [iV v4]) (S := []) (pc := 39) hC dX8_makeChange_39 cl_8_72 rfl rfl (Nat.le_of_ble_eq_true rfl) cr_X8_many hq ?_
    exact st_ireturn (pc := 42) hC dX8_makeChange_42 trivial h
theorem bX8_inTreasury_0 {C : Nat → List Vv → Sg → Rs → Sg → Prop} {X : Nat → List Vv → List Vv → Sg → Prop} {Xr : List Vv → Sg → Prop} {Xt : Nat → Sg → Prop} (hC : Clo C 8 cX8_inTreasury (some .int) X Xr Xt) {x1 : Int} {t0 : Nat} {σ : Sg} (h : if x1 < 0 then (Xr [iV 0] σ) else (if x1 < (σ t0 1) then ((0 ≤ x1 ∧ x1 < 8) ∧ (Xr [iV (σ (t0 + 6) (x1).toNat)] σ)) else (Xr [iV 0] σ))) : X 0 [rV 17 t0, iV x1] [] σ := by
  refine st_iload_n (pc := 0) hC dX8_inTreasury_0 rfl ?_
  refine st_if_lt (tg := 21) (pc := 1) hC dX8_inTreasury_1 (by decide) (ite_im h (fun h => ?_) (fun h => ?_))
  · refine st_iconst (pc := 21) hC dX8_inTreasury_21 (by decide) ?_
    exact st_ireturn (pc := 22) hC dX8_inTreasury_22 trivial h
  · refine st_iload_n (pc := 4) hC dX8_inTreasury_4 rfl ?_
    refine st_aload_n (pc := 5) hC dX8_inTreasury_5 rfl (by decide) (by decide) ?_
    refine st_getf (ci := 7) (f := 1) (v := iV (σ t0 1)) (pc := 6) hC dX8_inTreasury_6 fl_8_15 rfl rfl ?_
    refine st_icmp_ge (tg := 21) (pc := 9) hC dX8_inTreasury_9 (by decide) (ite_im h (fun h => ?_) (fun h => ?_))
    · refine st_aload_n (pc := 12) hC dX8_inTreasury_12 rfl (by decide) (by decide) ?_
      refine st_getf (ci := 7) (f := 8) (v := rV 1000008 (t0 + 6)) (pc := 13) hC dX8_inTreasury_13 fl_8_41 rfl rfl ?_
      refine st_iload_n (pc := 16) hC dX8_inTreasury_16 rfl ?_
      obtain ⟨hb, h⟩ := h
      refine st_iald (n := 8) (pc := 17) hC dX8_inTreasury_17 (by decide) hb ?_
      refine st_goto (tg := 22) (pc := 18) hC dX8_inTreasury_18 (by decide) ?_
      exact st_ireturn (pc := 22) hC dX8_inTreasury_22 trivial h
    · refine st_iconst (pc := 21) hC dX8_inTreasury_21 (by decide) ?_
      exact st_ireturn (pc := 22) hC dX8_inTreasury_22 trivial h
theorem bX8_manyInTreasury_0 {C : Nat → List Vv → Sg → Rs → Sg → Prop} {X : Nat → List Vv → List Vv → Sg → Prop} {Xr : List Vv → Sg → Prop} {Xt : Nat → Sg → Prop} (hC : Clo C 8 cX8_manyInTreasury (some .int) X Xr Xt) {t0 : Nat} {σ : Sg} (h : X 4 [rV 17 t0, iV 0, iV 0] [] σ) : X 0 [rV 17 t0, uV, uV] [] σ := by
  refine st_iconst (pc := 0) hC dX8_manyInTreasury_0 (by decide) ?_
  refine st_istore_n (L2 := [rV 17 t0, iV 0, uV]) (pc := 1) hC dX8_manyInTreasury_1 (Nat.le_of_ble_eq_true rfl) rfl ?_
  refine st_iconst (pc := 2) hC dX8_manyInTreasury_2 (by decide) ?_
  refine st_istore_n (L2 := [rV 17 t0, iV 0, iV 0]) (pc := 3) hC dX8_manyInTreasury_3 (Nat.le_of_ble_eq_true rfl) rfl ?_
  exact h
theorem bX8_manyInTreasury_4 {C : Nat → List Vv → Sg → Rs → Sg → Prop} {X : Nat → List Vv → List Vv → Sg → Prop} {Xr : List Vv → Sg → Prop} {Xt : Nat → Sg → Prop} (hC : Clo C 8 cX8_manyInTreasury (some .int) X Xr Xt) {x1 x2 : Int} {t0 : Nat} {σ : Sg} (h : if x2 < (σ t0 1) then ((0 ≤ x2 ∧ x2 < 8) ∧ (X 4 [rV 17 t0, iV (w32 (x1 + (σ (t0 + 6) (x2).toNat))), iV (w32 (x2 + 1))] [] σ)) else (Xr [iV x1] σ)) : X 4 [rV 17 t0, iV x1, iV x2] [] σ := by
  refine st_iload_n (pc := 4) hC dX8_manyInTreasury_4 rfl ?_
  refine st_aload_n (pc := 5) hC dX8_manyInTreasury_5 rfl (by decide) (by decide) ?_
  refine st_getf (ci := 7) (f := 1) (v := iV (σ t0 1)) (pc := 6) hC dX8_manyInTreasury_6 fl_8_15 rfl rfl ?_
  refine st_icmp_ge (tg := 27) (pc := 9) hC dX8_manyInTreasury_9 (by decide) (ite_im h (fun h => ?_) (fun h => ?_))
  · refine st_iload_n (pc := 12) hC dX8_manyInTreasury_12 rfl ?_
    refine st_aload_n (pc := 13) hC dX8_manyInTreasury_13 rfl (by decide) (by decide) ?_
    refine st_getf (ci := 7) (f := 8) (v := rV 1000008 (t0 + 6)) (pc := 14) hC dX8_manyInTreasury_14 fl_8_41 rfl rfl ?_
    refine st_iload_n (pc := 17) hC dX8_manyInTreasury_17 rfl ?_
    obtain ⟨hb, h⟩ := h
    refine st_iald (n := 8) (pc := 18) hC dX8_manyInTreasury_18 (by decide) hb ?_
    refine st_iadd (pc := 19) hC dX8_manyInTreasury_19 ?_
    refine st_istore_n (L2 := [rV 17 t0, iV (w32 (x1 + (σ (t0 + 6) (x2).toNat))), iV x2]) (pc := 20) hC dX8_manyInTreasury_20 (Nat.le_of_ble_eq_true rfl) rfl ?_
    refine st_iinc (L2 := [rV 17 t0, iV (w32 (x1 + (σ (t0 + 6) (x2).toNat))), iV (w32 (x2 + 1))]) (pc := 21) hC dX8_manyInTreasury_21 rfl (Nat.le_of_ble_eq_true rfl) rfl ?_
    refine st_goto (tg := 4) (pc := 24) hC dX8_manyInTreasury_24 (by decide) ?_
    exact h
  · refine st_iload_n (pc := 27) hC dX8_manyInTreasury_27 rfl ?_
    exact st_ireturn (pc := 28) hC dX8_manyInTreasury_28 trivial h
theorem bX8_taxOne_0 {C : Nat → List Vv → Sg → Rs → Sg → Prop} {X : Nat → List Vv → List Vv → Sg → Prop} {Xr : List Vv → Sg → Prop} {Xt : Nat → Sg → Prop} (hC : Clo C 8 cX8_taxOne (some .int) X Xr Xt) {x1 : Int} {t0 : Nat} {σ : Sg} (h : ∃ v1 : Int, C MX8_greatestCoin [rV 17 t0, iV x1] σ (.inl [iV v1]) σ ∧ (if v1 < 0 then (Xr [iV (-1)] σ) else (if v1 < 8 then (∃ σ2 : Sg, C MX8_come [rV 17 t0, iV x1, iV v1, iV (-1)] σ (.inl []) σ2 ∧ ((0 ≤ v1 ∧ v1 < 8) ∧ ((0 ≤ v1 ∧ v1 < 8) ∧ (∃ v3 : Int, C MX8_primeOf [rV 17 t0, iV v1] (upS σ2 (t0 + 6) (v1).toNat (min (w32 ((σ2 (t0 + 6) (v1).toNat) + 1)) 999)) (.inl [iV v3]) (upS σ2 (t0 + 6) (v1).toNat (min (w32 ((σ2 (t0 + 6) (v1).toNat) + 1)) 999)) ∧ (Xr [iV v3] (upS σ2 (t0 + 6) (v1).toNat (min (w32 ((σ2 (t0 + 6) (v1).toNat) + 1)) 999))))))) else (Xr [iV (-1)] σ)))) : X 0 [rV 17 t0, iV x1, uV] [] σ := by
  refine st_aload_n (pc := 0) hC dX8_taxOne_0 rfl (by decide) (by decide) ?_
  refine st_iload_n (pc := 1) hC dX8_taxOne_1 rfl ?_
  obtain ⟨v1, hq, h⟩ := h
  refine st_invV (As := [iV x1]) (v := [iV v1]) (S := []) (pc := 2) hC dX8_taxOne_2 cl_8_113 rfl rfl (Nat.le_of_ble_eq_true rfl) cr_X8_greatestCoin hq ?_
  refine st_istore_n (L2 := [rV 17 t0, iV x1, iV v1]) (pc := 5) hC dX8_taxOne_5 (Nat.le_of_ble_eq_true rfl) rfl ?_
  refine st_iload_n (pc := 6) hC dX8_taxOne_6 rfl ?_
  refine st_if_lt (tg := 16) (pc := 7) hC dX8_taxOne_7 (by decide) (ite_im h (fun h => ?_) (fun h => ?_))
  · refine st_iconst (pc := 16) hC dX8_taxOne_16 (by decide) ?_
    exact st_ireturn (pc := 17) hC dX8_taxOne_17 trivial h
  · refine st_iload_n (pc := 10) hC dX8_taxOne_10 rfl ?_
    refine st_bipush (pc := 11) hC dX8_taxOne_11 (by decide) ?_
    refine st_icmp_lt (tg := 18) (pc := 13) hC dX8_taxOne_13 (by decide) (ite_im h (fun h => ?_) (fun h => ?_))
    · refine st_aload_n (pc := 18) hC dX8_taxOne_18 rfl (by decide) (by decide) ?_
      refine st_iload_n (pc := 19) hC dX8_taxOne_19 rfl ?_
      refine st_iload_n (pc := 20) hC dX8_taxOne_20 rfl ?_
      refine st_iconst (pc := 21) hC dX8_taxOne_21 (by decide) ?_
      obtain ⟨σ2, hq, h⟩ := h
      refine st_invV (As := [iV x1, iV v1, iV (-1)]) (v := []) (S := []) (pc := 22) hC dX8_taxOne_22 cl_8_101 rfl rfl (Nat.le_of_ble_eq_true rfl) cr_X8_come hq ?_
      refine st_aload_n (pc := 25) hC dX8_taxOne_25 rfl (by decide) (by decide) ?_
      refine st_getf (ci := 7) (f := 8) (v := rV 1000008 (t0 + 6)) (pc := 26) hC dX8_taxOne_26 fl_8_41 rfl rfl ?_
      refine st_iload_n (pc := 29) hC dX8_taxOne_29 rfl ?_
      refine st_aload_n (pc := 30) hC dX8_taxOne_30 rfl (by decide) (by decide) ?_
      refine st_getf (ci := 7) (f := 8) (v := rV 1000008 (t0 + 6)) (pc := 31) hC dX8_taxOne_31 fl_8_41 rfl rfl ?_
      refine st_iload_n (pc := 34) hC dX8_taxOne_34 rfl ?_
      obtain ⟨hb, h⟩ := h
      refine st_iald (n := 8) (pc := 35) hC dX8_taxOne_35 (by decide) hb ?_
      refine st_iconst (pc := 36) hC dX8_taxOne_36 (by decide) ?_
      refine st_iadd (pc := 37) hC dX8_taxOne_37 ?_
      refine st_sipush (pc := 38) hC dX8_taxOne_38 (by decide) ?_
      refine st_mmin (pc := 41) hC dX8_taxOne_41 rfl (Nat.le_of_ble_eq_true rfl) ?_
      obtain ⟨hb, h⟩ := h
      refine st_iast (n := 8) (pc := 44) hC dX8_taxOne_44 (by decide) hb ?_
      refine st_aload_n (pc := 45) hC dX8_taxOne_45 rfl (by decide) (by decide) ?_
      refine st_iload_n (pc := 46) hC dX8_taxOne_46 rfl ?_
      obtain ⟨v3, hq, h⟩ := h
      refine st_invV (As := [iV v1]) (v := [iV v3]) (S := []) (pc := 47) hC dX8_taxOne_47 cl_8_84 rfl rfl (Nat.le_of_ble_eq_true rfl) cr_X8_primeOf hq ?_
      exact st_ireturn (pc := 50) hC dX8_taxOne_50 trivial h
    · refine st_iconst (pc := 16) hC dX8_taxOne_16 (by decide) ?_
      exact st_ireturn (pc := 17) hC dX8_taxOne_17 trivial h
theorem bX8_dealFault_0 {C : Nat → List Vv → Sg → Rs → Sg → Prop} {X : Nat → List Vv → List Vv → Sg → Prop} {Xr : List Vv → Sg → Prop} {Xt : Nat → Sg → Prop} (hC : Clo C 8 cX8_dealFault (some .int) X Xr Xt) {x1 : Int} {t0 : Nat} {σ : Sg} (h : ∃ v1 : Int, C MX8_numberOf [rV 17 t0, iV (w32 (x1.tmod 100))] σ (.inl [iV v1]) σ ∧ (if x1 < 0 then (Xr [iV 1] σ) else (if (w64 (x1.tdiv 1000)) < (σ t0 2) then (if ((w64 (x1.tdiv 100)).tmod 10) < (σ t0 2) then (if (w64 (x1.tdiv 1000)) = ((w64 (x1.tdiv 100)).tmod 10) then (Xr [iV 1] σ) else (if v1 = (-1) then (Xr [iV 1] σ) else (∃ v2 : Int, C MX8_held [rV 17 t0, iV (w32 (w64 (x1.tdiv 1000))), iV v1] σ (.inl [iV v2]) σ ∧ (if v2 = 0 then (Xr [iV 2] σ) else (∃ v3 : Int, C MX8_many [rV 17 t0, iV (w32 ((w64 (x1.tdiv 100)).tmod 10))] σ (.inl [iV v3]) σ ∧ (if v3 < 9 then (Xr [iV 0] σ) else (Xr [iV 3] σ))))))) else (Xr [iV 1] σ)) else (Xr [iV 1] σ)))) : X 0 [rV 17 t0, lV x1, uV, uV, uV, uV, uV, uV] [] σ := by
  refine st_lload_n (pc := 0) hC dX8_dealFault_0 rfl ?_
  refine st_ldc2 (pc := 1) hC dX8_dealFault_1 rfl ?_
  refine st_ldiv (pc := 4) hC dX8_dealFault_4 (by decide) ?_
  refine st_lstore_n (L2 := [rV 17 t0, lV x1, uV, lV (w64 (x1.tdiv 1000)), uV, uV, uV, uV]) (pc := 5) hC dX8_dealFault_5 (Nat.le_of_ble_eq_true rfl) rfl ?_
  refine st_lload_n (pc := 6) hC dX8_dealFault_6 rfl ?_
  refine st_ldc2 (pc := 7) hC dX8_dealFault_7 rfl ?_
  refine st_ldiv (pc := 10) hC dX8_dealFault_10 (by decide) ?_
  refine st_ldc2 (pc := 11) hC dX8_dealFault_11 rfl ?_
  refine st_lrem (pc := 14) hC dX8_dealFault_14 (by decide) ?_
  refine st_lstore (L2 := [rV 17 t0, lV x1, uV, lV (w64 (x1.tdiv 1000)), uV, lV ((w64 (x1.tdiv 100)).tmod 10), uV, uV]) (pc := 15) hC dX8_dealFault_15 (Nat.le_of_ble_eq_true rfl) rfl ?_
  refine st_aload_n (pc := 17) hC dX8_dealFault_17 rfl (by decide) (by decide) ?_
  refine st_lload_n (pc := 18) hC dX8_dealFault_18 rfl ?_
  refine st_ldc2 (pc := 19) hC dX8_dealFault_19 rfl ?_
  refine st_lrem (pc := 22) hC dX8_dealFault_22 (by decide) ?_
  refine st_l2i (pc := 23) hC dX8_dealFault_23 ?_
  obtain ⟨v1, hq, h⟩ := h
  refine st_invV (As := [iV (w32 (x1.tmod 100))]) (v := [iV v1]) (S := []) (pc := 24) hC dX8_dealFault_24 cl_8_125 rfl rfl (Nat.le_of_ble_eq_true rfl) cr_X8_numberOf hq ?_
  refine st_istore (L2 := [rV 17 t0, lV x1, uV, lV (w64 (x1.tdiv 1000)), uV, lV ((w64 (x1.tdiv 100)).tmod 10), uV, iV v1]) (pc := 27) hC dX8_dealFault_27 (Nat.le_of_ble_eq_true rfl) rfl ?_
  refine st_lload_n (pc := 29) hC dX8_dealFault_29 rfl ?_
  refine st_lconst0 (pc := 30) hC dX8_dealFault_30 ?_
  refine st_lcmp_lt (tg := 69) (pc := 31) hC dX8_dealFault_31 dX8_dealFault_32 (by decide) (ite_im h (fun h => ?_) (fun h => ?_))
  · refine st_iconst (pc := 69) hC dX8_dealFault_69 (by decide) ?_
    exact st_ireturn (pc := 70) hC dX8_dealFault_70 trivial h
  · refine st_lload_n (pc := 35) hC dX8_dealFault_35 rfl ?_
    refine st_aload_n (pc := 36) hC dX8_dealFault_36 rfl (by decide) (by decide) ?_
    refine st_getf (ci := 7) (f := 2) (v := iV (σ t0 2)) (pc := 37) hC dX8_dealFault_37 fl_8_18 rfl rfl ?_
    refine st_i2l (pc := 40) hC dX8_dealFault_40 ?_
    refine st_lcmp_ge (tg := 69) (pc := 41) hC dX8_dealFault_41 dX8_dealFault_42 (by decide) (ite_im h (fun h => ?_) (fun h => ?_))
    · refine st_lload (pc := 45) hC dX8_dealFault_45 rfl ?_
      refine st_aload_n (pc := 47) hC dX8_dealFault_47 rfl (by decide) (by decide) ?_
      refine st_getf (ci := 7) (f := 2) (v := iV (σ t0 2)) (pc := 48) hC dX8_dealFault_48 fl_8_18 rfl rfl ?_
      refine st_i2l (pc := 51) hC dX8_dealFault_51 ?_
      refine st_lcmp_ge (tg := 69) (pc := 52) hC dX8_dealFault_52 dX8_dealFault_53 (by decide) (ite_im h (fun h => ?_) (fun h => ?_))
      · refine st_lload_n (pc := 56) hC dX8_dealFault_56 rfl ?_
        refine st_lload (pc := 57) hC dX8_dealFault_57 rfl ?_
        refine st_lcmp_eq (tg := 69) (pc := 59) hC dX8_dealFault_59 dX8_dealFault_60 (by decide) (ite_im h (fun h => ?_) (fun h => ?_))
        · refine st_iconst (pc := 69) hC dX8_dealFault_69 (by decide) ?_
          exact st_ireturn (pc := 70) hC dX8_dealFault_70 trivial h
        · refine st_iload (pc := 63) hC dX8_dealFault_63 rfl ?_
          refine st_iconst (pc := 65) hC dX8_dealFault_65 (by decide) ?_
          refine st_icmp_ne (tg := 71) (pc := 66) hC dX8_dealFault_66 (by decide) (ite_im h (fun h => ?_) (fun h => ?_))
          · refine st_iconst (pc := 69) hC dX8_dealFault_69 (by decide) ?_
            exact st_ireturn (pc := 70) hC dX8_dealFault_70 trivial h
          · refine st_aload_n (pc := 71) hC dX8_dealFault_71 rfl (by decide) (by decide) ?_
            refine st_lload_n (pc := 72) hC dX8_dealFault_72 rfl ?_
            refine st_l2i (pc := 73) hC dX8_dealFault_73 ?_
            refine st_iload (pc := 74) hC dX8_dealFault_74 rfl ?_
            obtain ⟨v2, hq, h⟩ := h
            refine st_invV (As := [iV (w32 (w64 (x1.tdiv 1000))), iV v1]) (v := [iV v2]) (S := []) (pc := 76) hC dX8_dealFault_76 cl_8_69 rfl rfl (Nat.le_of_ble_eq_true rfl) cr_X8_held hq ?_
            refine st_if_ne (tg := 84) (pc := 79) hC dX8_dealFault_79 (by decide) (ite_im h (fun h => ?_) (fun h => ?_))
            · refine st_iconst (pc := 82) hC dX8_dealFault_82 (by decide) ?_
              exact st_ireturn (pc := 83) hC dX8_dealFault_83 trivial h
            · refine st_aload_n (pc := 84) hC dX8_dealFault_84 rfl (by decide) (by decide) ?_
              refine st_lload (pc := 85) hC dX8_dealFault_85 rfl ?_
              refine st_l2i (pc := 87) hC dX8_dealFault_87 ?_
              obtain ⟨v3, hq, h⟩ := h
              refine st_invV (As := [iV (w32 ((w64 (x1.tdiv 100)).tmod 10))]) (v := [iV v3]) (S := []) (pc := 88) hC dX8_dealFault_88 cl_8_72 rfl rfl (Nat.le_of_ble_eq_true rfl) cr_X8_many hq ?_
              refine st_bipush (pc := 91) hC dX8_dealFault_91 (by decide) ?_
              refine st_icmp_lt (tg := 100) (pc := 93) hC dX8_dealFault_93 (by decide) (ite_im h (fun h => ?_) (fun h => ?_))
              · refine st_iconst (pc := 100) hC dX8_dealFault_100 (by decide) ?_
                exact st_ireturn (pc := 101) hC dX8_dealFault_101 trivial h
              · refine st_iconst (pc := 96) hC dX8_dealFault_96 (by decide) ?_
                refine st_goto (tg := 101) (pc := 97) hC dX8_dealFault_97 (by decide) ?_
                exact st_ireturn (pc := 101) hC dX8_dealFault_101 trivial h
      · refine st_iconst (pc := 69) hC dX8_dealFault_69 (by decide) ?_
        exact st_ireturn (pc := 70) hC dX8_dealFault_70 trivial h
    · refine st_iconst (pc := 69) hC dX8_dealFault_69 (by decide) ?_
      exact st_ireturn (pc := 70) hC dX8_dealFault_70 trivial h
theorem bX8_makeDeals_0 {C : Nat → List Vv → Sg → Rs → Sg → Prop} {X : Nat → List Vv → List Vv → Sg → Prop} {Xr : List Vv → Sg → Prop} {Xt : Nat → Sg → Prop} (hC : Clo C 8 cX8_makeDeals (some .int) X Xr Xt) {t0 t1 : Nat} {σ : Sg} (h : X 2 [rV 17 t0, rV 18 t1, iV 0, uV, uV, uV] [] σ) : X 0 [rV 17 t0, rV 18 t1, uV, uV, uV, uV] [] σ := by
  refine st_iconst (pc := 0) hC dX8_makeDeals_0 (by decide) ?_
  refine st_istore_n (L2 := [rV 17 t0, rV 18 t1, iV 0, uV, uV, uV]) (pc := 1) hC dX8_makeDeals_1 (Nat.le_of_ble_eq_true rfl) rfl ?_
  exact h
theorem bX8_makeDeals_2 {C : Nat → List Vv → Sg → Rs → Sg → Prop} {X : Nat → List Vv → List Vv → Sg → Prop} {Xr : List Vv → Sg → Prop} {Xt : Nat → Sg → Prop} (hC : Clo C 8 cX8_makeDeals (some .int) X Xr Xt) {x2 : Int} {t0 t1 : Nat} {σ : Sg} (h : if x2 < (σ t1 1) then (∃ v1 : Int, C MX9_at [rV 18 t1, iV x2] σ (.inl [lV v1]) σ ∧ (∃ v2 : Int, C MX8_dealFault [rV 17 t0, lV v1] σ (.inl [iV v2]) σ ∧ (if v2 = 0 then (∃ v3 : Int, C MX8_numberOf [rV 17 t0, iV (w32 (v1.tmod 100))] σ (.inl [iV v3]) σ ∧ (∃ σ4 : Sg, C MX8_come [rV 17 t0, iV (w32 (w64 (v1.tdiv 1000))), iV v3, iV (-1)] σ (.inl []) σ4 ∧ (∃ σ5 : Sg, C MX8_come [rV 17 t0, iV (w32 ((w64 (v1.tdiv 100)).tmod 10)), iV v3, iV 1] σ4 (.inl []) σ5 ∧ (X 2 [rV 17 t0, rV 18 t1, iV (w32 (x2 + 1)), uV, uV, uV] [] σ5)))) else (Xr [iV x2] σ)))) else (Xr [iV (σ t1 1)] σ)) : X 2 [rV 17 t0, rV 18 t1, iV x2, uV, uV, uV] [] σ := by
  refine st_iload_n (pc := 2) hC dX8_makeDeals_2 rfl ?_
  refine st_aload_n (pc := 3) hC dX8_makeDeals_3 rfl (by decide) (by decide) ?_
  refine st_getf (ci := 8) (f := 1) (v := iV (σ t1 1)) (pc := 4) hC dX8_makeDeals_4 fl_8_128 rfl rfl ?_
  refine st_icmp_ge (tg := 74) (pc := 7) hC dX8_makeDeals_7 (by decide) (ite_im h (fun h => ?_) (fun h => ?_))
  · refine st_aload_n (pc := 10) hC dX8_makeDeals_10 rfl (by decide) (by decide) ?_
    refine st_iload_n (pc := 11) hC dX8_makeDeals_11 rfl ?_
    obtain ⟨v1, hq, h⟩ := h
    refine st_invV (As := [iV x2]) (v := [lV v1]) (S := []) (pc := 12) hC dX8_makeDeals_12 cl_8_132 rfl rfl (Nat.le_of_ble_eq_true rfl) cr_X9_at hq ?_
    refine st_lstore_n (L2 := [rV 17 t0, rV 18 t1, iV x2, lV v1, uV, uV]) (pc := 15) hC dX8_makeDeals_15 (Nat.le_of_ble_eq_true rfl) rfl ?_
    refine st_aload_n (pc := 16) hC dX8_makeDeals_16 rfl (by decide) (by decide) ?_
    refine st_lload_n (pc := 17) hC dX8_makeDeals_17 rfl ?_
    obtain ⟨v2, hq, h⟩ := h
    refine st_invV (As := [lV v1]) (v := [iV v2]) (S := []) (pc := 18) hC dX8_makeDeals_18 cl_8_135 rfl rfl (Nat.le_of_ble_eq_true rfl) cr_X8_dealFault hq ?_
    refine st_if_eq (tg := 26) (pc := 21) hC dX8_makeDeals_21 (by decide) (ite_im h (fun h => ?_) (fun h => ?_))
    · refine st_aload_n (pc := 26) hC dX8_makeDeals_26 rfl (by decide) (by decide) ?_
      refine st_lload_n (pc := 27) hC dX8_makeDeals_27 rfl ?_
      refine st_ldc2 (pc := 28) hC dX8_makeDeals_28 rfl ?_
      refine st_lrem (pc := 31) hC dX8_makeDeals_31 (by decide) ?_
      refine st_l2i (pc := 32) hC dX8_makeDeals_32 ?_
      obtain ⟨v3, hq, h⟩ := h
      refine st_invV (As := [iV (w32 (v1.tmod 100))]) (v := [iV v3]) (S := []) (pc := 33) hC dX8_makeDeals_33 cl_8_125 rfl rfl (Nat.le_of_ble_eq_true rfl) cr_X8_numberOf hq ?_
      refine st_istore (L2 := [rV 17 t0, rV 18 t1, iV x2, lV v1, uV, iV v3]) (pc := 36) hC dX8_makeDeals_36 (Nat.le_of_ble_eq_true rfl) rfl ?_
      refine st_aload_n (pc := 38) hC dX8_makeDeals_38 rfl (by decide) (by decide) ?_
      refine st_lload_n (pc := 39) hC dX8_makeDeals_39 rfl ?_
      refine st_ldc2 (pc := 40) hC dX8_makeDeals_40 rfl ?_
      refine st_ldiv (pc := 43) hC dX8_makeDeals_43 (by decide) ?_
      refine st_l2i (pc := 44) hC dX8_makeDeals_44 ?_
      refine st_iload (pc := 45) hC dX8_makeDeals_45 rfl ?_
      refine st_iconst (pc := 47) hC dX8_makeDeals_47 (by decide) ?_
      obtain ⟨σ4, hq, h⟩ := h
      refine st_invV (As := [iV (w32 (w64 (v1.tdiv 1000))), iV v3, iV (-1)]) (v := []) (S := []) (pc := 48) hC dX8_makeDeals_48 cl_8_101 rfl rfl (Nat.le_of_ble_eq_true rfl) cr_X8_come hq ?_
      refine st_aload_n (pc := 51) hC dX8_makeDeals_51 rfl (by decide) (by decide) ?_
      refine st_lload_n (pc := 52) hC dX8_makeDeals_52 rfl ?_
      refine st_ldc2 (pc := 53) hC dX8_makeDeals_53 rfl ?_
      refine st_ldiv (pc := 56) hC dX8_makeDeals_56 (by decide) ?_
      refine st_ldc2 (pc := 57) hC dX8_makeDeals_57 rfl ?_
      refine st_lrem (pc := 60) hC dX8_makeDeals_60 (by decide) ?_
      refine st_l2i (pc := 61) hC dX8_makeDeals_61 ?_
      refine st_iload (pc := 62) hC dX8_makeDeals_62 rfl ?_
      refine st_iconst (pc := 64) hC dX8_makeDeals_64 (by decide) ?_
      obtain ⟨σ5, hq, h⟩ := h
      refine st_invV (As := [iV (w32 ((w64 (v1.tdiv 100)).tmod 10)), iV v3, iV 1]) (v := []) (S := []) (pc := 65) hC dX8_makeDeals_65 cl_8_101 rfl rfl (Nat.le_of_ble_eq_true rfl) cr_X8_come hq ?_
      refine st_iinc (L2 := [rV 17 t0, rV 18 t1, iV (w32 (x2 + 1)), lV v1, uV, iV v3]) (pc := 68) hC dX8_makeDeals_68 rfl (Nat.le_of_ble_eq_true rfl) rfl ?_
      refine st_goto (tg := 2) (pc := 71) hC dX8_makeDeals_71 (by decide) ?_
      exact st_fg (L2 := [rV 17 t0, rV 18 t1, iV (w32 (x2 + 1)), uV, uV, uV]) hC ⟨Or.inl rfl, Or.inl rfl, Or.inl rfl, Or.inr rfl, Or.inl rfl, Or.inr rfl, trivial⟩ h
    · refine st_iload_n (pc := 24) hC dX8_makeDeals_24 rfl ?_
      exact st_ireturn (pc := 25) hC dX8_makeDeals_25 trivial h
  · refine st_aload_n (pc := 74) hC dX8_makeDeals_74 rfl (by decide) (by decide) ?_
    refine st_getf (ci := 8) (f := 1) (v := iV (σ t1 1)) (pc := 75) hC dX8_makeDeals_75 fl_8_128 rfl rfl ?_
    exact st_ireturn (pc := 78) hC dX8_makeDeals_78 trivial h
