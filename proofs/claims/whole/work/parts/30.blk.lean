theorem bX10_feed_0 {C : Nat → List Vv → Sg → Rs → Sg → Prop} {X : Nat → List Vv → List Vv → Sg → Prop} {Xr : List Vv → Sg → Prop} {Xt : Nat → Sg → Prop} (hC : Clo C 10 cX10_feed (some .int) X Xr Xt) {x1 x2 x3 x4 x5 : Int} {σ : Sg} (h : if (700 : Int) < (w32 ((σ 0 1) + 20)) then (Xr [iV (-1)] σ) else (∃ σ1 : Sg, C MX10_lay [rV 19 0, iV x1] σ (.inl []) σ1 ∧ (∃ σ2 : Sg, C MX10_lay [rV 19 0, iV x2] σ1 (.inl []) σ2 ∧ (∃ σ3 : Sg, C MX10_lay [rV 19 0, iV x3] σ2 (.inl []) σ3 ∧ (∃ σ4 : Sg, C MX10_lay [rV 19 0, iV x4] σ3 (.inl []) σ4 ∧ (∃ σ5 : Sg, C MX10_lay [rV 19 0, iV x5] σ4 (.inl []) σ5 ∧ (Xr [iV (σ5 0 1)] σ5))))))) : X 0 [rV 19 0, iV x1, iV x2, iV x3, iV x4, iV x5] [] σ := by
  refine st_aload_n (pc := 0) hC dX10_feed_0 rfl (by decide) (by decide) ?_
  refine st_getf (ci := 9) (f := 1) (v := iV (σ 0 1)) (pc := 1) hC dX10_feed_1 fl_10_13 rfl rfl ?_
  refine st_bipush (pc := 4) hC dX10_feed_4 (by decide) ?_
  refine st_iadd (pc := 6) hC dX10_feed_6 ?_
  refine st_sipush (pc := 7) hC dX10_feed_7 (by decide) ?_
  refine st_icmp_le (tg := 15) (pc := 10) hC dX10_feed_10 (by decide) (ite_im h (fun h => ?_) (fun h => ?_))
  · refine st_iconst (pc := 13) hC dX10_feed_13 (by decide) ?_
    exact st_ireturn (pc := 14) hC dX10_feed_14 trivial h
  · refine st_aload_n (pc := 15) hC dX10_feed_15 rfl (by decide) (by decide) ?_
    refine st_iload_n (pc := 16) hC dX10_feed_16 rfl ?_
    obtain ⟨σ1, hq, h⟩ := h
    refine st_invV (As := [iV x1]) (v := []) (S := []) (pc := 17) hC dX10_feed_17 cl_10_86 rfl rfl (Nat.le_of_ble_eq_true rfl) cr_X10_lay hq ?_
    refine st_aload_n (pc := 20) hC dX10_feed_20 rfl (by decide) (by decide) ?_
    refine st_iload_n (pc := 21) hC dX10_feed_21 rfl ?_
    obtain ⟨σ2, hq, h⟩ := h
    refine st_invV (As := [iV x2]) (v := []) (S := []) (pc := 22) hC dX10_feed_22 cl_10_86 rfl rfl (Nat.le_of_ble_eq_true rfl) cr_X10_lay hq ?_
    refine st_aload_n (pc := 25) hC dX10_feed_25 rfl (by decide) (by decide) ?_
    refine st_iload_n (pc := 26) hC dX10_feed_26 rfl ?_
    obtain ⟨σ3, hq, h⟩ := h
    refine st_invV (As := [iV x3]) (v := []) (S := []) (pc := 27) hC dX10_feed_27 cl_10_86 rfl rfl (Nat.le_of_ble_eq_true rfl) cr_X10_lay hq ?_
    refine st_aload_n (pc := 30) hC dX10_feed_30 rfl (by decide) (by decide) ?_
    refine st_iload (pc := 31) hC dX10_feed_31 rfl ?_
    obtain ⟨σ4, hq, h⟩ := h
    refine st_invV (As := [iV x4]) (v := []) (S := []) (pc := 33) hC dX10_feed_33 cl_10_86 rfl rfl (Nat.le_of_ble_eq_true rfl) cr_X10_lay hq ?_
    refine st_aload_n (pc := 36) hC dX10_feed_36 rfl (by decide) (by decide) ?_
    refine st_iload (pc := 37) hC dX10_feed_37 rfl ?_
    obtain ⟨σ5, hq, h⟩ := h
    refine st_invV (As := [iV x5]) (v := []) (S := []) (pc := 39) hC dX10_feed_39 cl_10_86 rfl rfl (Nat.le_of_ble_eq_true rfl) cr_X10_lay hq ?_
    refine st_aload_n (pc := 42) hC dX10_feed_42 rfl (by decide) (by decide) ?_
    refine st_getf (ci := 9) (f := 1) (v := iV (σ5 0 1)) (pc := 43) hC dX10_feed_43 fl_10_13 rfl rfl ?_
    exact st_ireturn (pc := 46) hC dX10_feed_46 trivial h
theorem bX10_town_0 {C : Nat → List Vv → Sg → Rs → Sg → Prop} {X : Nat → List Vv → List Vv → Sg → Prop} {Xr : List Vv → Sg → Prop} {Xt : Nat → Sg → Prop} (hC : Clo C 10 cX10_town (some .int) X Xr Xt) {x1 : Int} {σ : Sg} (h : if x1 < 0 then (Xt 2 σ) else (if (σ 0 1) < x1 then (Xt 2 σ) else (∃ σ1 : Sg, C MX5_read [rV 14 1, rV 1000700 6, iV x1] σ (.inl []) σ1 ∧ (if ((upS (upS (upS σ1 0 1 0) 0 2 ((upS σ1 0 1 0) 1 0)) 0 3 ((upS (upS σ1 0 1 0) 0 2 ((upS σ1 0 1 0) 1 0)) 1 1)) 0 2) = 0 then (∃ σ2 : Sg, C MX8_become [rV 17 7, rV 17 14] (upS (upS (upS σ1 0 1 0) 0 2 ((upS σ1 0 1 0) 1 0)) 0 3 ((upS (upS σ1 0 1 0) 0 2 ((upS σ1 0 1 0) 1 0)) 1 1)) (.inl []) σ2 ∧ (Xr [iV (σ2 7 0)] σ2)) else (Xr [iV (w32 ((-10) - ((upS (upS (upS σ1 0 1 0) 0 2 ((upS σ1 0 1 0) 1 0)) 0 3 ((upS (upS σ1 0 1 0) 0 2 ((upS σ1 0 1 0) 1 0)) 1 1)) 0 2)))] (upS (upS (upS σ1 0 1 0) 0 2 ((upS σ1 0 1 0) 1 0)) 0 3 ((upS (upS σ1 0 1 0) 0 2 ((upS σ1 0 1 0) 1 0)) 1 1))))))) : X 0 [rV 19 0, iV x1] [] σ := by
  refine st_iload_n (pc := 0) hC dX10_town_0 rfl ?_
  refine st_if_lt (tg := 12) (pc := 1) hC dX10_town_1 (by decide) (ite_im h (fun h => ?_) (fun h => ?_))
  · exact st_throw (pc := 12) (E := 2) (k := 92) hC (by decide) dX10_town_12 dX10_town_15 rfl dX10_town_16 dX10_town_18 dX10_town_21 h
  · refine st_iload_n (pc := 4) hC dX10_town_4 rfl ?_
    refine st_aload_n (pc := 5) hC dX10_town_5 rfl (by decide) (by decide) ?_
    refine st_getf (ci := 9) (f := 1) (v := iV (σ 0 1)) (pc := 6) hC dX10_town_6 fl_10_13 rfl rfl ?_
    refine st_icmp_le (tg := 22) (pc := 9) hC dX10_town_9 (by decide) (ite_im h (fun h => ?_) (fun h => ?_))
    · exact st_throw (pc := 12) (E := 2) (k := 92) hC (by decide) dX10_town_12 dX10_town_15 rfl dX10_town_16 dX10_town_18 dX10_town_21 h
    · refine st_aload_n (pc := 22) hC dX10_town_22 rfl (by decide) (by decide) ?_
      refine st_getf (ci := 9) (f := 10) (v := rV 14 1) (pc := 23) hC dX10_town_23 fl_10_53 rfl rfl ?_
      refine st_aload_n (pc := 26) hC dX10_town_26 rfl (by decide) (by decide) ?_
      refine st_getf (ci := 9) (f := 0) (v := rV 1000700 6) (pc := 27) hC dX10_town_27 fl_10_9 rfl rfl ?_
      refine st_iload_n (pc := 30) hC dX10_town_30 rfl ?_
      obtain ⟨σ1, hq, h⟩ := h
      refine st_invV (As := [rV 1000700 6, iV x1]) (v := []) (S := []) (pc := 31) hC dX10_town_31 cl_10_97 rfl rfl (Nat.le_of_ble_eq_true rfl) cr_X5_read hq ?_
      refine st_aload_n (pc := 34) hC dX10_town_34 rfl (by decide) (by decide) ?_
      refine st_iconst (pc := 35) hC dX10_town_35 (by decide) ?_
      refine st_putfI (ci := 9) (f := 1) (pc := 36) hC dX10_town_36 fl_10_13 rfl rfl ?_
      refine st_aload_n (pc := 39) hC dX10_town_39 rfl (by decide) (by decide) ?_
      refine st_aload_n (pc := 40) hC dX10_town_40 rfl (by decide) (by decide) ?_
      refine st_getf (ci := 9) (f := 10) (v := rV 14 1) (pc := 41) hC dX10_town_41 fl_10_53 rfl rfl ?_
      refine st_getf (ci := 4) (f := 0) (v := iV ((upS σ1 0 1 0) 1 0)) (pc := 44) hC dX10_town_44 fl_10_101 rfl rfl ?_
      refine st_putfI (ci := 9) (f := 2) (pc := 47) hC dX10_town_47 fl_10_17 rfl rfl ?_
      refine st_aload_n (pc := 50) hC dX10_town_50 rfl (by decide) (by decide) ?_
      refine st_aload_n (pc := 51) hC dX10_town_51 rfl (by decide) (by decide) ?_
      refine st_getf (ci := 9) (f := 10) (v := rV 14 1) (pc := 52) hC dX10_town_52 fl_10_53 rfl rfl ?_
      refine st_getf (ci := 4) (f := 1) (v := iV ((upS (upS σ1 0 1 0) 0 2 ((upS σ1 0 1 0) 1 0)) 1 1)) (pc := 55) hC dX10_town_55 fl_10_104 rfl rfl ?_
      refine st_putfI (ci := 9) (f := 3) (pc := 58) hC dX10_town_58 fl_10_20 rfl rfl ?_
      refine st_aload_n (pc := 61) hC dX10_town_61 rfl (by decide) (by decide) ?_
      refine st_getf (ci := 9) (f := 2) (v := iV ((upS (upS (upS σ1 0 1 0) 0 2 ((upS σ1 0 1 0) 1 0)) 0 3 ((upS (upS σ1 0 1 0) 0 2 ((upS σ1 0 1 0) 1 0)) 1 1)) 0 2)) (pc := 62) hC dX10_town_62 fl_10_17 rfl rfl ?_
      refine st_if_eq (tg := 76) (pc := 65) hC dX10_town_65 (by decide) (ite_im h (fun h => ?_) (fun h => ?_))
      · refine st_aload_n (pc := 76) hC dX10_town_76 rfl (by decide) (by decide) ?_
        refine st_getf (ci := 9) (f := 4) (v := rV 17 7) (pc := 77) hC dX10_town_77 fl_10_26 rfl rfl ?_
        refine st_aload_n (pc := 80) hC dX10_town_80 rfl (by decide) (by decide) ?_
        refine st_getf (ci := 9) (f := 10) (v := rV 14 1) (pc := 81) hC dX10_town_81 fl_10_53 rfl rfl ?_
        refine st_getf (ci := 4) (f := 2) (v := rV 17 14) (pc := 84) hC dX10_town_84 fl_10_107 rfl rfl ?_
        obtain ⟨σ2, hq, h⟩ := h
        refine st_invV (As := [rV 17 14]) (v := []) (S := []) (pc := 87) hC dX10_town_87 cl_10_110 rfl rfl (Nat.le_of_ble_eq_true rfl) cr_X8_become hq ?_
        refine st_aload_n (pc := 90) hC dX10_town_90 rfl (by decide) (by decide) ?_
        refine st_getf (ci := 9) (f := 4) (v := rV 17 7) (pc := 91) hC dX10_town_91 fl_10_26 rfl rfl ?_
        refine st_getf (ci := 7) (f := 0) (v := iV (σ2 7 0)) (pc := 94) hC dX10_town_94 fl_10_114 rfl rfl ?_
        exact st_ireturn (pc := 97) hC dX10_town_97 trivial h
      · refine st_bipush (pc := 68) hC dX10_town_68 (by decide) ?_
        refine st_aload_n (pc := 70) hC dX10_town_70 rfl (by decide) (by decide) ?_
        refine st_getf (ci := 9) (f := 2) (v := iV ((upS (upS (upS σ1 0 1 0) 0 2 ((upS σ1 0 1 0) 1 0)) 0 3 ((upS (upS σ1 0 1 0) 0 2 ((upS σ1 0 1 0) 1 0)) 1 1)) 0 2)) (pc := 71) hC dX10_town_71 fl_10_17 rfl rfl ?_
        refine st_isub (pc := 74) hC dX10_town_74 ?_
        exact st_ireturn (pc := 75) hC dX10_town_75 trivial h
theorem bX10_fault_0 {C : Nat → List Vv → Sg → Rs → Sg → Prop} {X : Nat → List Vv → List Vv → Sg → Prop} {Xr : List Vv → Sg → Prop} {Xt : Nat → Sg → Prop} (hC : Clo C 10 cX10_fault (some .int) X Xr Xt) {x1 : Int} {σ : Sg} (h : if x1 = 0 then (Xr [iV (σ 0 2)] σ) else (if x1 = 1 then (Xr [iV (σ 0 3)] σ) else (Xr [iV (-1)] σ))) : X 0 [rV 19 0, iV x1] [] σ := by
  refine st_iload_n (pc := 0) hC dX10_fault_0 rfl ?_
  refine st_if_ne (tg := 9) (pc := 1) hC dX10_fault_1 (by decide) (ite_im h (fun h => ?_) (fun h => ?_))
  · refine st_aload_n (pc := 4) hC dX10_fault_4 rfl (by decide) (by decide) ?_
    refine st_getf (ci := 9) (f := 2) (v := iV (σ 0 2)) (pc := 5) hC dX10_fault_5 fl_10_17 rfl rfl ?_
    exact st_ireturn (pc := 8) hC dX10_fault_8 trivial h
  · refine st_iload_n (pc := 9) hC dX10_fault_9 rfl ?_
    refine st_iconst (pc := 10) hC dX10_fault_10 (by decide) ?_
    refine st_icmp_ne (tg := 21) (pc := 11) hC dX10_fault_11 (by decide) (ite_im h (fun h => ?_) (fun h => ?_))
    · refine st_aload_n (pc := 14) hC dX10_fault_14 rfl (by decide) (by decide) ?_
      refine st_getf (ci := 9) (f := 3) (v := iV (σ 0 3)) (pc := 15) hC dX10_fault_15 fl_10_20 rfl rfl ?_
      refine st_goto (tg := 22) (pc := 18) hC dX10_fault_18 (by decide) ?_
      exact st_ireturn (pc := 22) hC dX10_fault_22 trivial h
    · refine st_iconst (pc := 21) hC dX10_fault_21 (by decide) ?_
      exact st_ireturn (pc := 22) hC dX10_fault_22 trivial h
theorem bX10_coin_0 {C : Nat → List Vv → Sg → Rs → Sg → Prop} {X : Nat → List Vv → List Vv → Sg → Prop} {Xr : List Vv → Sg → Prop} {Xt : Nat → Sg → Prop} (hC : Clo C 10 cX10_coin (some .int) X Xr Xt) {x1 : Int} {σ : Sg} (h : if x1 < 0 then (Xt 1 σ) else (if x1 < (σ 7 1) then (∃ v1 : Int, C MX8_primeOf [rV 17 7, iV x1] σ (.inl [iV v1]) σ ∧ (Xr [iV v1] σ)) else (Xt 1 σ))) : X 0 [rV 19 0, iV x1] [] σ := by
  refine st_iload_n (pc := 0) hC dX10_coin_0 rfl ?_
  refine st_if_lt (tg := 15) (pc := 1) hC dX10_coin_1 (by decide) (ite_im h (fun h => ?_) (fun h => ?_))
  · exact st_throw (pc := 15) (E := 1) (k := 122) hC (by decide) dX10_coin_15 dX10_coin_18 rfl dX10_coin_19 dX10_coin_21 dX10_coin_24 h
  · refine st_iload_n (pc := 4) hC dX10_coin_4 rfl ?_
    refine st_aload_n (pc := 5) hC dX10_coin_5 rfl (by decide) (by decide) ?_
    refine st_getf (ci := 9) (f := 4) (v := rV 17 7) (pc := 6) hC dX10_coin_6 fl_10_26 rfl rfl ?_
    refine st_getf (ci := 7) (f := 1) (v := iV (σ 7 1)) (pc := 9) hC dX10_coin_9 fl_10_117 rfl rfl ?_
    refine st_icmp_lt (tg := 25) (pc := 12) hC dX10_coin_12 (by decide) (ite_im h (fun h => ?_) (fun h => ?_))
    · refine st_aload_n (pc := 25) hC dX10_coin_25 rfl (by decide) (by decide) ?_
      refine st_getf (ci := 9) (f := 4) (v := rV 17 7) (pc := 26) hC dX10_coin_26 fl_10_26 rfl rfl ?_
      refine st_iload_n (pc := 29) hC dX10_coin_29 rfl ?_
      obtain ⟨v1, hq, h⟩ := h
      refine st_invV (As := [iV x1]) (v := [iV v1]) (S := []) (pc := 30) hC dX10_coin_30 cl_10_125 rfl rfl (Nat.le_of_ble_eq_true rfl) cr_X8_primeOf hq ?_
      exact st_ireturn (pc := 33) hC dX10_coin_33 trivial h
    · exact st_throw (pc := 15) (E := 1) (k := 122) hC (by decide) dX10_coin_15 dX10_coin_18 rfl dX10_coin_19 dX10_coin_21 dX10_coin_24 h
theorem bX10_has_0 {C : Nat → List Vv → Sg → Rs → Sg → Prop} {X : Nat → List Vv → List Vv → Sg → Prop} {Xr : List Vv → Sg → Prop} {Xt : Nat → Sg → Prop} (hC : Clo C 10 cX10_has (some .int) X Xr Xt) {x1 x2 : Int} {σ : Sg} (h : (C MX10_needPerson [rV 19 0, iV x1] σ (.inl []) σ ∧ (∃ v3 : Int, C MX8_numberOf [rV 17 7, iV x2] σ (.inl [iV v3]) σ ∧ (∃ v4 : Int, C MX8_held [rV 17 7, iV x1, iV v3] σ (.inl [iV v4]) σ ∧ (Xr [iV v4] σ)))) ∨ (∃ E2 : Nat, C MX10_needPerson [rV 19 0, iV x1] σ (.inr E2) σ ∧ Xt E2 σ)) : X 0 [rV 19 0, iV x1, iV x2] [] σ := by
  refine st_aload_n (pc := 0) hC dX10_has_0 rfl (by decide) (by decide) ?_
  refine st_iload_n (pc := 1) hC dX10_has_1 rfl ?_
  rcases h with ⟨hq, h⟩ | ⟨E2, hq, h⟩
  · refine st_invV (As := [iV x1]) (v := []) (S := []) (pc := 2) hC dX10_has_2 cl_10_129 rfl rfl (Nat.le_of_ble_eq_true rfl) cr_X10_needPerson hq ?_
    refine st_aload_n (pc := 5) hC dX10_has_5 rfl (by decide) (by decide) ?_
    refine st_getf (ci := 9) (f := 4) (v := rV 17 7) (pc := 6) hC dX10_has_6 fl_10_26 rfl rfl ?_
    refine st_iload_n (pc := 9) hC dX10_has_9 rfl ?_
    refine st_aload_n (pc := 10) hC dX10_has_10 rfl (by decide) (by decide) ?_
    refine st_getf (ci := 9) (f := 4) (v := rV 17 7) (pc := 11) hC dX10_has_11 fl_10_26 rfl rfl ?_
    refine st_iload_n (pc := 14) hC dX10_has_14 rfl ?_
    obtain ⟨v3, hq, h⟩ := h
    refine st_invV (As := [iV x2]) (v := [iV v3]) (S := [iV x1, rV 17 7]) (pc := 15) hC dX10_has_15 cl_10_132 rfl rfl (Nat.le_of_ble_eq_true rfl) cr_X8_numberOf hq ?_
    obtain ⟨v4, hq, h⟩ := h
    refine st_invV (As := [iV x1, iV v3]) (v := [iV v4]) (S := []) (pc := 18) hC dX10_has_18 cl_10_135 rfl rfl (Nat.le_of_ble_eq_true rfl) cr_X8_held hq ?_
    exact st_ireturn (pc := 21) hC dX10_has_21 trivial h
  · exact st_invVx (As := [iV x1]) (S := []) (pc := 2) hC dX10_has_2 cl_10_129 rfl rfl (Nat.le_of_ble_eq_true rfl) cr_X10_needPerson hq h
theorem bX10_purse_0 {C : Nat → List Vv → Sg → Rs → Sg → Prop} {X : Nat → List Vv → List Vv → Sg → Prop} {Xr : List Vv → Sg → Prop} {Xt : Nat → Sg → Prop} (hC : Clo C 10 cX10_purse (some .int) X Xr Xt) {x1 x2 : Int} {σ : Sg} (h : (C MX10_needPerson [rV 19 0, iV x1] σ (.inl []) σ ∧ ((C MX10_needWhat [rV 19 0, iV x2, iV 3] σ (.inl []) σ ∧ (if x2 = 0 then (∃ v5 : Int, C MX8_many [rV 17 7, iV x1] σ (.inl [iV v5]) σ ∧ (Xr [iV v5] σ)) else (if x2 = 1 then (∃ v6 : Int, C MX8_unlike [rV 17 7, iV x1] σ (.inl [iV v6]) σ ∧ (Xr [iV v6] σ)) else (if x2 = 2 then (∃ v7 : Int, C MX8_greatestCoin [rV 17 7, iV x1] σ (.inl [iV v7]) σ ∧ (∃ v8 : Int, C MX8_primeOf [rV 17 7, iV v7] σ (.inl [iV v8]) σ ∧ (Xr [iV v8] σ))) else (∃ v9 : Int, C MX8_leastCoin [rV 17 7, iV x1] σ (.inl [iV v9]) σ ∧ (∃ v10 : Int, C MX8_primeOf [rV 17 7, iV v9] σ (.inl [iV v10]) σ ∧ (Xr [iV v10] σ))))))) ∨ (∃ E4 : Nat, C MX10_needWhat [rV 19 0, iV x2, iV 3] σ (.inr E4) σ ∧ Xt E4 σ))) ∨ (∃ E2 : Nat, C MX10_needPerson [rV 19 0, iV x1] σ (.inr E2) σ ∧ Xt E2 σ)) : X 0 [rV 19 0, iV x1, iV x2] [] σ := by
  refine st_aload_n (pc := 0) hC dX10_purse_0 rfl (by decide) (by decide) ?_
  refine st_iload_n (pc := 1) hC dX10_purse_1 rfl ?_
  rcases h with ⟨hq, h⟩ | ⟨E2, hq, h⟩
  · refine st_invV (As := [iV x1]) (v := []) (S := []) (pc := 2) hC dX10_purse_2 cl_10_129 rfl rfl (Nat.le_of_ble_eq_true rfl) cr_X10_needPerson hq ?_
    refine st_aload_n (pc := 5) hC dX10_purse_5 rfl (by decide) (by decide) ?_
    refine st_iload_n (pc := 6) hC dX10_purse_6 rfl ?_
    refine st_iconst (pc := 7) hC dX10_purse_7 (by decide) ?_
    rcases h with ⟨hq, h⟩ | ⟨E4, hq, h⟩
    · refine st_invV (As := [iV x2, iV 3]) (v := []) (S := []) (pc := 8) hC dX10_purse_8 cl_10_139 rfl rfl (Nat.le_of_ble_eq_true rfl) cr_X10_needWhat hq ?_
      refine st_iload_n (pc := 11) hC dX10_purse_11 rfl ?_
      refine st_tsw3 (t0 := 40) (t1 := 49) (t2 := 58) (td := 74) (pc := 12) hC dX10_purse_12 (by decide) (by decide) (by decide) (by decide) (ite_im h (fun h => ?_) (fun h => ite_im h (fun h => ?_) (fun h => ite_im h (fun h => ?_) (fun h => ?_))))
      · refine st_aload_n (pc := 40) hC dX10_purse_40 rfl (by decide) (by decide) ?_
        refine st_getf (ci := 9) (f := 4) (v := rV 17 7) (pc := 41) hC dX10_purse_41 fl_10_26 rfl rfl ?_
        refine st_iload_n (pc := 44) hC dX10_purse_44 rfl ?_
        obtain ⟨v5, hq, h⟩ := h
        refine st_invV (As := [iV x1]) (v := [iV v5]) (S := []) (pc := 45) hC dX10_purse_45 cl_10_143 rfl rfl (Nat.le_of_ble_eq_true rfl) cr_X8_many hq ?_
        exact st_ireturn (pc := 48) hC dX10_purse_48 trivial h
      · refine st_aload_n (pc := 49) hC dX10_purse_49 rfl (by decide) (by decide) ?_
        refine st_getf (ci := 9) (f := 4) (v := rV 17 7) (pc := 50) hC dX10_purse_50 fl_10_26 rfl rfl ?_
        refine st_iload_n (pc := 53) hC dX10_purse_53 rfl ?_
        obtain ⟨v6, hq, h⟩ := h
        refine st_invV (As := [iV x1]) (v := [iV v6]) (S := []) (pc := 54) hC dX10_purse_54 cl_10_146 rfl rfl (Nat.le_of_ble_eq_true rfl) cr_X8_unlike hq ?_
        exact st_ireturn (pc := 57) hC dX10_purse_57 trivial h
      · refine st_aload_n (pc := 58) hC dX10_purse_58 rfl (by decide) (by decide) ?_
        refine st_getf (ci := 9) (f := 4) (v := rV 17 7) (pc := 59) hC dX10_purse_59 fl_10_26 rfl rfl ?_
        refine st_aload_n (pc := 62) hC dX10_purse_62 rfl (by decide) (by decide) ?_
        refine st_getf (ci := 9) (f := 4) (v := rV 17 7) (pc := 63) hC dX10_purse_63 fl_10_26 rfl rfl ?_
        refine st_iload_n (pc := 66) hC dX10_purse_66 rfl ?_
        obtain ⟨v7, hq, h⟩ := h
        refine st_invV (As := [iV x1]) (v := [iV v7]) (S := [rV 17 7]) (pc := 67) hC dX10_purse_67 cl_10_149 rfl rfl (Nat.le_of_ble_eq_true rfl) cr_X8_greatestCoin hq ?_
        obtain ⟨v8, hq, h⟩ := h
        refine st_invV (As := [iV v7]) (v := [iV v8]) (S := []) (pc := 70) hC dX10_purse_70 cl_10_125 rfl rfl (Nat.le_of_ble_eq_true rfl) cr_X8_primeOf hq ?_
        exact st_ireturn (pc := 73) hC dX10_purse_73 trivial h
      · refine st_aload_n (pc := 74) hC dX10_purse_74 rfl (by decide) (by decide) ?_
        refine st_getf (ci := 9) (f := 4) (v := rV 17 7) (pc := 75) hC dX10_purse_75 fl_10_26 rfl rfl ?_
        refine st_aload_n (pc := 78) hC dX10_purse_78 rfl (by decide) (by decide) ?_
        refine st_getf (ci := 9) (f := 4) (v := rV 17 7) (pc := 79) hC dX10_purse_79 fl_10_26 rfl rfl ?_
        refine st_iload_n (pc := 82) hC dX10_purse_82 rfl ?_
        obtain ⟨v9, hq, h⟩ := h
        refine st_invV (As := [iV x1]) (v := [iV v9]) (S := [rV 17 7]) (pc := 83) hC dX10_purse_83 cl_10_152 rfl rfl (Nat.le_of_ble_eq_true rfl) cr_X8_leastCoin hq ?_
        obtain ⟨v10, hq, h⟩ := h
        refine st_invV (As := [iV v9]) (v := [iV v10]) (S := []) (pc := 86) hC dX10_purse_86 cl_10_125 rfl rfl (Nat.le_of_ble_eq_true rfl) cr_X8_primeOf hq ?_
        exact st_ireturn (pc := 89) hC dX10_purse_89 trivial h
    · exact st_invVx (As := [iV x2, iV 3]) (S := []) (pc := 8) hC dX10_purse_8 cl_10_139 rfl rfl (Nat.le_of_ble_eq_true rfl) cr_X10_needWhat hq h
  · exact st_invVx (As := [iV x1]) (S := []) (pc := 2) hC dX10_purse_2 cl_10_129 rfl rfl (Nat.le_of_ble_eq_true rfl) cr_X10_needPerson hq h
theorem bX10_worth_0 {C : Nat → List Vv → Sg → Rs → Sg → Prop} {X : Nat → List Vv → List Vv → Sg → Prop} {Xr : List Vv → Sg → Prop} {Xt : Nat → Sg → Prop} (hC : Clo C 10 cX10_worth (some .long) X Xr Xt) {x1 : Int} {σ : Sg} (h : (C MX10_needPerson [rV 19 0, iV x1] σ (.inl []) σ ∧ (∃ v3 : Int, C MX8_worthOf [rV 17 7, iV x1] σ (.inl [lV v3]) σ ∧ (Xr [lV v3] σ))) ∨ (∃ E2 : Nat, C MX10_needPerson [rV 19 0, iV x1] σ (.inr E2) σ ∧ Xt E2 σ)) : X 0 [rV 19 0, iV x1] [] σ := by
  refine st_aload_n (pc := 0) hC dX10_worth_0 rfl (by decide) (by decide) ?_
  refine st_iload_n (pc := 1) hC dX10_worth_1 rfl ?_
  rcases h with ⟨hq, h⟩ | ⟨E2, hq, h⟩
  · refine st_invV (As := [iV x1]) (v := []) (S := []) (pc := 2) hC dX10_worth_2 cl_10_129 rfl rfl (Nat.le_of_ble_eq_true rfl) cr_X10_needPerson hq ?_
    refine st_aload_n (pc := 5) hC dX10_worth_5 rfl (by decide) (by decide) ?_
    refine st_getf (ci := 9) (f := 4) (v := rV 17 7) (pc := 6) hC dX10_worth_6 fl_10_26 rfl rfl ?_
    refine st_iload_n (pc := 9) hC dX10_worth_9 rfl ?_
    obtain ⟨v3, hq, h⟩ := h
    refine st_invV (As := [iV x1]) (v := [lV v3]) (S := []) (pc := 10) hC dX10_worth_10 cl_10_155 rfl rfl (Nat.le_of_ble_eq_true rfl) cr_X8_worthOf hq ?_
    exact st_lreturn (pc := 13) hC dX10_worth_13 h
  · exact st_invVx (As := [iV x1]) (S := []) (pc := 2) hC dX10_worth_2 cl_10_129 rfl rfl (Nat.le_of_ble_eq_true rfl) cr_X10_needPerson hq h
theorem bX10_change_0 {C : Nat → List Vv → Sg → Rs → Sg → Prop} {X : Nat → List Vv → List Vv → Sg → Prop} {Xr : List Vv → Sg → Prop} {Xt : Nat → Sg → Prop} (hC : Clo C 10 cX10_change (some .int) X Xr Xt) {x1 x2 : Int} {σ : Sg} (h : (C MX10_needChange [rV 19 0, iV x1] σ (.inl []) σ ∧ ((C MX10_needWhat [rV 19 0, iV x2, iV 1] σ (.inl []) σ ∧ (∃ v5 : Int, C MX8_sideWorth [rV 17 7, iV x1, iV x2] σ (.inl [iV v5]) σ ∧ (Xr [iV v5] σ))) ∨ (∃ E4 : Nat, C MX10_needWhat [rV 19 0, iV x2, iV 1] σ (.inr E4) σ ∧ Xt E4 σ))) ∨ (∃ E2 : Nat, C MX10_needChange [rV 19 0, iV x1] σ (.inr E2) σ ∧ Xt E2 σ)) : X 0 [rV 19 0, iV x1, iV x2] [] σ := by
  refine st_aload_n (pc := 0) hC dX10_change_0 rfl (by decide) (by decide) ?_
  refine st_iload_n (pc := 1) hC dX10_change_1 rfl ?_
  rcases h with ⟨hq, h⟩ | ⟨E2, hq, h⟩
  · refine st_invV (As := [iV x1]) (v := []) (S := []) (pc := 2) hC dX10_change_2 cl_10_159 rfl rfl (Nat.le_of_ble_eq_true rfl) cr_X10_needChange hq ?_
    refine st_aload_n (pc := 5) hC dX10_change_5 rfl (by decide) (by decide) ?_
    refine st_iload_n (pc := 6) hC dX10_change_6 rfl ?_
    refine st_iconst (pc := 7) hC dX10_change_7 (by decide) ?_
    rcases h with ⟨hq, h⟩ | ⟨E4, hq, h⟩
    · refine st_invV (As := [iV x2, iV 1]) (v := []) (S := []) (pc := 8) hC dX10_change_8 cl_10_139 rfl rfl (Nat.le_of_ble_eq_true rfl) cr_X10_needWhat hq ?_
      refine st_aload_n (pc := 11) hC dX10_change_11 rfl (by decide) (by decide) ?_
      refine st_getf (ci := 9) (f := 4) (v := rV 17 7) (pc := 12) hC dX10_change_12 fl_10_26 rfl rfl ?_
      refine st_iload_n (pc := 15) hC dX10_change_15 rfl ?_
      refine st_iload_n (pc := 16) hC dX10_change_16 rfl ?_
      obtain ⟨v5, hq, h⟩ := h
      refine st_invV (As := [iV x1, iV x2]) (v := [iV v5]) (S := []) (pc := 17) hC dX10_change_17 cl_10_162 rfl rfl (Nat.le_of_ble_eq_true rfl) cr_X8_sideWorth hq ?_
      exact st_ireturn (pc := 20) hC dX10_change_20 trivial h
    · exact st_invVx (As := [iV x2, iV 1]) (S := []) (pc := 8) hC dX10_change_8 cl_10_139 rfl rfl (Nat.le_of_ble_eq_true rfl) cr_X10_needWhat hq h
  · exact st_invVx (As := [iV x1]) (S := []) (pc := 2) hC dX10_change_2 cl_10_159 rfl rfl (Nat.le_of_ble_eq_true rfl) cr_X10_needChange hq h
theorem bX10_may_0 {C : Nat → List Vv → Sg → Rs → Sg → Prop} {X : Nat → List Vv → List Vv → Sg → Prop} {Xr : List Vv → Sg → Prop} {Xt : Nat → Sg → Prop} (hC : Clo C 10 cX10_may (some .int) X Xr Xt) {x1 x2 x3 : Int} {σ : Sg} (h : (C MX10_needTwo [rV 19 0, iV x1, iV x2] σ (.inl []) σ ∧ (∃ v3 : Int, ∃ σ3 : Sg, C MX10_payFault [rV 19 0, iV x1, iV x2, lV x3] σ (.inl [iV v3]) σ3 ∧ (Xr [iV v3] σ3))) ∨ (∃ E2 : Nat, C MX10_needTwo [rV 19 0, iV x1, iV x2] σ (.inr E2) σ ∧ Xt E2 σ)) : X 0 [rV 19 0, iV x1, iV x2, lV x3, uV] [] σ := by
  refine st_aload_n (pc := 0) hC dX10_may_0 rfl (by decide) (by decide) ?_
  refine st_iload_n (pc := 1) hC dX10_may_1 rfl ?_
  refine st_iload_n (pc := 2) hC dX10_may_2 rfl ?_
  rcases h with ⟨hq, h⟩ | ⟨E2, hq, h⟩
  · refine st_invV (As := [iV x1, iV x2]) (v := []) (S := []) (pc := 3) hC dX10_may_3 cl_10_165 rfl rfl (Nat.le_of_ble_eq_true rfl) cr_X10_needTwo hq ?_
    refine st_aload_n (pc := 6) hC dX10_may_6 rfl (by decide) (by decide) ?_
    refine st_iload_n (pc := 7) hC dX10_may_7 rfl ?_
    refine st_iload_n (pc := 8) hC dX10_may_8 rfl ?_
    refine st_lload_n (pc := 9) hC dX10_may_9 rfl ?_
    obtain ⟨v3, σ3, hq, h⟩ := h
    refine st_invV (As := [iV x1, iV x2, lV x3]) (v := [iV v3]) (S := []) (pc := 10) hC dX10_may_10 cl_10_168 rfl rfl (Nat.le_of_ble_eq_true rfl) cr_X10_payFault hq ?_
    exact st_ireturn (pc := 13) hC dX10_may_13 trivial h
  · exact st_invVx (As := [iV x1, iV x2]) (S := []) (pc := 3) hC dX10_may_3 cl_10_165 rfl rfl (Nat.le_of_ble_eq_true rfl) cr_X10_needTwo hq h
theorem bX10_pay_0 {C : Nat → List Vv → Sg → Rs → Sg → Prop} {X : Nat → List Vv → List Vv → Sg → Prop} {Xr : List Vv → Sg → Prop} {Xt : Nat → Sg → Prop} (hC : Clo C 10 cX10_pay (some .int) X Xr Xt) {x1 x2 x3 : Int} {σ : Sg} (h : (C MX10_needTwo [rV 19 0, iV x1, iV x2] σ (.inl []) σ ∧ (∃ v3 : Int, ∃ σ3 : Sg, C MX10_payFault [rV 19 0, iV x1, iV x2, lV x3] σ (.inl [iV v3]) σ3 ∧ (if v3 = 0 then (∃ v4 : Int, ∃ σ4 : Sg, C MX8_handOver [rV 17 7, iV x1, iV x2, rV 1000008 53] σ3 (.inl [iV v4]) σ4 ∧ (Xr [iV v4] σ4)) else (Xr [iV (w32 (-v3))] σ3)))) ∨ (∃ E2 : Nat, C MX10_needTwo [rV 19 0, iV x1, iV x2] σ (.inr E2) σ ∧ Xt E2 σ)) : X 0 [rV 19 0, iV x1, iV x2, lV x3, uV, uV] [] σ := by
  refine st_aload_n (pc := 0) hC dX10_pay_0 rfl (by decide) (by decide) ?_
  refine st_iload_n (pc := 1) hC dX10_pay_1 rfl ?_
  refine st_iload_n (pc := 2) hC dX10_pay_2 rfl ?_
  rcases h with ⟨hq, h⟩ | ⟨E2, hq, h⟩
  · refine st_invV (As := [iV x1, iV x2]) (v := []) (S := []) (pc := 3) hC dX10_pay_3 cl_10_165 rfl rfl (Nat.le_of_ble_eq_true rfl) cr_X10_needTwo hq ?_
    refine st_aload_n (pc := 6) hC dX10_pay_6 rfl (by decide) (by decide) ?_
    refine st_iload_n (pc := 7) hC dX10_pay_7 rfl ?_
    refine st_iload_n (pc := 8) hC dX10_pay_8 rfl ?_
    refine st_lload_n (pc := 9) hC dX10_pay_9 rfl ?_
    obtain ⟨v3, σ3, hq, h⟩ := h
    refine st_invV (As := [iV x1, iV x2, lV x3]) (v := [iV v3]) (S := []) (pc := 10) hC dX10_pay_10 cl_10_168 rfl rfl (Nat.le_of_ble_eq_true rfl) cr_X10_payFault hq ?_
    refine st_istore (L2 := [rV 19 0, iV x1, iV x2, lV x3, uV, iV v3]) (pc := 13) hC dX10_pay_13 (Nat.le_of_ble_eq_true rfl) rfl ?_
    refine st_iload (pc := 15) hC dX10_pay_15 rfl ?_
    refine st_if_eq (tg := 26) (pc := 17) hC dX10_pay_17 (by decide) (ite_im h (fun h => ?_) (fun h => ?_))
    · refine st_aload_n (pc := 26) hC dX10_pay_26 rfl (by decide) (by decide) ?_
      refine st_getf (ci := 9) (f := 4) (v := rV 17 7) (pc := 27) hC dX10_pay_27 fl_10_26 rfl rfl ?_
      refine st_iload_n (pc := 30) hC dX10_pay_30 rfl ?_
      refine st_iload_n (pc := 31) hC dX10_pay_31 rfl ?_
      refine st_aload_n (pc := 32) hC dX10_pay_32 rfl (by decide) (by decide) ?_
      refine st_getf (ci := 9) (f := 9) (v := rV 1000008 53) (pc := 33) hC dX10_pay_33 fl_10_47 rfl rfl ?_
      obtain ⟨v4, σ4, hq, h⟩ := h
      refine st_invV (As := [iV x1, iV x2, rV 1000008 53]) (v := [iV v4]) (S := []) (pc := 36) hC dX10_pay_36 cl_10_172 rfl rfl (Nat.le_of_ble_eq_true rfl) cr_X8_handOver hq ?_
      exact st_ireturn (pc := 39) hC dX10_pay_39 trivial h
    · refine st_iload (pc := 20) hC dX10_pay_20 rfl ?_
      refine st_ineg (pc := 22) hC dX10_pay_22 ?_
      refine st_goto (tg := 39) (pc := 23) hC dX10_pay_23 (by decide) ?_
      exact st_ireturn (pc := 39) hC dX10_pay_39 trivial h
  · exact st_invVx (As := [iV x1, iV x2]) (S := []) (pc := 3) hC dX10_pay_3 cl_10_165 rfl rfl (Nat.le_of_ble_eq_true rfl) cr_X10_needTwo hq h
theorem bX10_changes_0 {C : Nat → List Vv → Sg → Rs → Sg → Prop} {X : Nat → List Vv → List Vv → Sg → Prop} {Xr : List Vv → Sg → Prop} {Xt : Nat → Sg → Prop} (hC : Clo C 10 cX10_changes (some .int) X Xr Xt) {x1 x2 : Int} {σ : Sg} (h : (C MX10_needPerson [rV 19 0, iV x1] σ (.inl []) σ ∧ ((C MX10_needChange [rV 19 0, iV x2] σ (.inl []) σ ∧ (∃ v5 : Int, C MX8_changeFault [rV 17 7, iV x1, iV x2] σ (.inl [iV v5]) σ ∧ (if v5 = 0 then (∃ v6 : Int, ∃ σ6 : Sg, C MX8_makeChange [rV 17 7, iV x1, iV x2] σ (.inl [iV v6]) σ6 ∧ (Xr [iV v6] σ6)) else (Xr [iV (w32 (-v5))] σ)))) ∨ (∃ E4 : Nat, C MX10_needChange [rV 19 0, iV x2] σ (.inr E4) σ ∧ Xt E4 σ))) ∨ (∃ E2 : Nat, C MX10_needPerson [rV 19 0, iV x1] σ (.inr E2) σ ∧ Xt E2 σ)) : X 0 [rV 19 0, iV x1, iV x2, uV] [] σ := by
  refine st_aload_n (pc := 0) hC dX10_changes_0 rfl (by decide) (by decide) ?_
  refine st_iload_n (pc := 1) hC dX10_changes_1 rfl ?_
  rcases h with ⟨hq, h⟩ | ⟨E2, hq, h⟩
  · refine st_invV (As := [iV x1]) (v := []) (S := []) (pc := 2) hC dX10_changes_2 cl_10_129 rfl rfl (Nat.le_of_ble_eq_true rfl) cr_X10_needPerson hq ?_
    refine st_aload_n (pc := 5) hC dX10_changes_5 rfl (by decide) (by decide) ?_
    refine st_iload_n (pc := 6) hC dX10_changes_6 rfl ?_
    rcases h with ⟨hq, h⟩ | ⟨E4, hq, h⟩
    · refine st_invV (As := [iV x2]) (v := []) (S := []) (pc := 7) hC dX10_changes_7 cl_10_159 rfl rfl (Nat.le_of_ble_eq_true rfl) cr_X10_needChange hq ?_
      refine st_aload_n (pc := 10) hC dX10_changes_10 rfl (by decide) (by decide) ?_
      refine st_getf (ci := 9) (f := 4) (v := rV 17 7) (pc := 11) hC dX10_changes_11 fl_10_26 rfl rfl ?_
      refine st_iload_n (pc := 14) hC dX10_changes_14 rfl ?_
      refine st_iload_n (pc := 15) hC dX10_changes_15 rfl ?_
      obtain ⟨v5, hq, h⟩ := h
      refine st_invV (As := [iV x1, iV x2]) (v := [iV v5]) (S := []) (pc := 16) hC dX10_changes_16 cl_10_176 rfl rfl (Nat.le_of_ble_eq_true rfl) cr_X8_changeFault hq ?_
      refine st_istore_n (L2 := [rV 19 0, iV x1, iV x2, iV v5]) (pc := 19) hC dX10_changes_19 (Nat.le_of_ble_eq_true rfl) rfl ?_
      refine st_iload_n (pc := 20) hC dX10_changes_20 rfl ?_
      refine st_if_eq (tg := 29) (pc := 21) hC dX10_changes_21 (by decide) (ite_im h (fun h => ?_) (fun h => ?_))
      · refine st_aload_n (pc := 29) hC dX10_changes_29 rfl (by decide) (by decide) ?_
        refine st_getf (ci := 9) (f := 4) (v := rV 17 7) (pc := 30) hC dX10_changes_30 fl_10_26 rfl rfl ?_
        refine st_iload_n (pc := 33) hC dX10_changes_33 rfl ?_
        refine st_iload_n (pc := 34) hC dX10_changes_34 rfl ?_
        obtain ⟨v6, σ6, hq, h⟩ := h
        refine st_invV (As := [iV x1, iV x2]) (v := [iV v6]) (S := []) (pc := 35) hC dX10_changes_35 cl_10_179 rfl rfl (Nat.le_of_ble_eq_true rfl) cr_X8_makeChange hq ?_
        exact st_ireturn (pc := 38) hC dX10_changes_38 trivial h
      · refine st_iload_n (pc := 24) hC dX10_changes_24 rfl ?_
        refine st_ineg (pc := 25) hC dX10_changes_25 ?_
        refine st_goto (tg := 38) (pc := 26) hC dX10_changes_26 (by decide) ?_
        exact st_ireturn (pc := 38) hC dX10_changes_38 trivial h
    · exact st_invVx (As := [iV x2]) (S := []) (pc := 7) hC dX10_changes_7 cl_10_159 rfl rfl (Nat.le_of_ble_eq_true rfl) cr_X10_needChange hq h
  · exact st_invVx (As := [iV x1]) (S := []) (pc := 2) hC dX10_changes_2 cl_10_129 rfl rfl (Nat.le_of_ble_eq_true rfl) cr_X10_needPerson hq h
theorem bX10_tax_0 {C : Nat → List Vv → Sg → Rs → Sg → Prop} {X : Nat → List Vv → List Vv → Sg → Prop} {Xr : List Vv → Sg → Prop} {Xt : Nat → Sg → Prop} (hC : Clo C 10 cX10_tax (some .int) X Xr Xt) {x1 : Int} {σ : Sg} (h : (C MX10_needPerson [rV 19 0, iV x1] σ (.inl []) σ ∧ (∃ v3 : Int, ∃ σ3 : Sg, C MX8_taxOne [rV 17 7, iV x1] σ (.inl [iV v3]) σ3 ∧ (Xr [iV v3] σ3))) ∨ (∃ E2 : Nat, C MX10_needPerson [rV 19 0, iV x1] σ (.inr E2) σ ∧ Xt E2 σ)) : X 0 [rV 19 0, iV x1] [] σ := by
  refine st_aload_n (pc := 0) hC dX10_tax_0 rfl (by decide) (by decide) ?_
  refine st_iload_n (pc := 1) hC dX10_tax_1 rfl ?_
  rcases h with ⟨hq, h⟩ | ⟨E2, hq, h⟩
  · refine st_invV (As := [iV x1]) (v := []) (S := []) (pc := 2) hC dX10_tax_2 cl_10_129 rfl rfl (Nat.le_of_ble_eq_true rfl) cr_X10_needPerson hq ?_
    refine st_aload_n (pc := 5) hC dX10_tax_5 rfl (by decide) (by decide) ?_
    refine st_getf (ci := 9) (f := 4) (v := rV 17 7) (pc := 6) hC dX10_tax_6 fl_10_26 rfl rfl ?_
    refine st_iload_n (pc := 9) hC dX10_tax_9 rfl ?_
    obtain ⟨v3, σ3, hq, h⟩ := h
    refine st_invV (As := [iV x1]) (v := [iV v3]) (S := []) (pc := 10) hC dX10_tax_10 cl_10_182 rfl rfl (Nat.le_of_ble_eq_true rfl) cr_X8_taxOne hq ?_
    exact st_ireturn (pc := 13) hC dX10_tax_13 trivial h
  · exact st_invVx (As := [iV x1]) (S := []) (pc := 2) hC dX10_tax_2 cl_10_129 rfl rfl (Nat.le_of_ble_eq_true rfl) cr_X10_needPerson hq h
theorem bX10_strike_0 {C : Nat → List Vv → Sg → Rs → Sg → Prop} {X : Nat → List Vv → List Vv → Sg → Prop} {Xr : List Vv → Sg → Prop} {Xt : Nat → Sg → Prop} (hC : Clo C 10 cX10_strike (some .int) X Xr Xt) {x1 x2 : Int} {σ : Sg} (h : (C MX10_needPerson [rV 19 0, iV x1] σ (.inl []) σ ∧ (∃ v3 : Int, C MX8_numberOf [rV 17 7, iV x2] σ (.inl [iV v3]) σ ∧ (if v3 = (-1) then (Xt 2 σ) else (∃ v4 : Int, C MX8_many [rV 17 7, iV x1] σ (.inl [iV v4]) σ ∧ (if v4 < 9 then (∃ σ5 : Sg, C MX8_come [rV 17 7, iV x1, iV v3, iV 1] σ (.inl []) σ5 ∧ (∃ v6 : Int, C MX8_many [rV 17 7, iV x1] σ5 (.inl [iV v6]) σ5 ∧ (Xr [iV v6] σ5))) else (Xt 3 σ)))))) ∨ (∃ E2 : Nat, C MX10_needPerson [rV 19 0, iV x1] σ (.inr E2) σ ∧ Xt E2 σ)) : X 0 [rV 19 0, iV x1, iV x2, uV] [] σ := by
  refine st_aload_n (pc := 0) hC dX10_strike_0 rfl (by decide) (by decide) ?_
  refine st_iload_n (pc := 1) hC dX10_strike_1 rfl ?_
  rcases h with ⟨hq, h⟩ | ⟨E2, hq, h⟩
  · refine st_invV (As := [iV x1]) (v := []) (S := []) (pc := 2) hC dX10_strike_2 cl_10_129 rfl rfl (Nat.le_of_ble_eq_true rfl) cr_X10_needPerson hq ?_
    refine st_aload_n (pc := 5) hC dX10_strike_5 rfl (by decide) (by decide) ?_
    refine st_getf (ci := 9) (f := 4) (v := rV 17 7) (pc := 6) hC dX10_strike_6 fl_10_26 rfl rfl ?_
    refine st_iload_n (pc := 9) hC dX10_strike_9 rfl ?_
    obtain ⟨v3, hq, h⟩ := h
    refine st_invV (As := [iV x2]) (v := [iV v3]) (S := []) (pc := 10) hC dX10_strike_10 cl_10_132 rfl rfl (Nat.le_of_ble_eq_true rfl) cr_X8_numberOf hq ?_
    refine st_istore_n (L2 := [rV 19 0, iV x1, iV x2, iV v3]) (pc := 13) hC dX10_strike_13 (Nat.le_of_ble_eq_true rfl) rfl ?_
    refine st_iload_n (pc := 14) hC dX10_strike_14 rfl ?_
    refine st_iconst (pc := 15) hC dX10_strike_15 (by decide) ?_
    refine st_icmp_ne (tg := 29) (pc := 16) hC dX10_strike_16 (by decide) (ite_im h (fun h => ?_) (fun h => ?_))
    · exact st_throw (pc := 19) (E := 2) (k := 185) hC (by decide) dX10_strike_19 dX10_strike_22 rfl dX10_strike_23 dX10_strike_25 dX10_strike_28 h
    · refine st_aload_n (pc := 29) hC dX10_strike_29 rfl (by decide) (by decide) ?_
      refine st_getf (ci := 9) (f := 4) (v := rV 17 7) (pc := 30) hC dX10_strike_30 fl_10_26 rfl rfl ?_
      refine st_iload_n (pc := 33) hC dX10_strike_33 rfl ?_
      obtain ⟨v4, hq, h⟩ := h
      refine st_invV (As := [iV x1]) (v := [iV v4]) (S := []) (pc := 34) hC dX10_strike_34 cl_10_143 rfl rfl (Nat.le_of_ble_eq_true rfl) cr_X8_many hq ?_
      refine st_bipush (pc := 37) hC dX10_strike_37 (by decide) ?_
      refine st_icmp_lt (tg := 52) (pc := 39) hC dX10_strike_39 (by decide) (ite_im h (fun h => ?_) (fun h => ?_))
      · refine st_aload_n (pc := 52) hC dX10_strike_52 rfl (by decide) (by decide) ?_
        refine st_getf (ci := 9) (f := 4) (v := rV 17 7) (pc := 53) hC dX10_strike_53 fl_10_26 rfl rfl ?_
        refine st_iload_n (pc := 56) hC dX10_strike_56 rfl ?_
        refine st_iload_n (pc := 57) hC dX10_strike_57 rfl ?_
        refine st_iconst (pc := 58) hC dX10_strike_58 (by decide) ?_
        obtain ⟨σ5, hq, h⟩ := h
        refine st_invV (As := [iV x1, iV v3, iV 1]) (v := []) (S := []) (pc := 59) hC dX10_strike_59 cl_10_192 rfl rfl (Nat.le_of_ble_eq_true rfl) cr_X8_come hq ?_
        refine st_aload_n (pc := 62) hC dX10_strike_62 rfl (by decide) (by decide) ?_
        refine st_getf (ci := 9) (f := 4) (v := rV 17 7) (pc := 63) hC dX10_strike_63 fl_10_26 rfl rfl ?_
        refine st_iload_n (pc := 66) hC dX10_strike_66 rfl ?_
        obtain ⟨v6, hq, h⟩ := h
        refine st_invV (As := [iV x1]) (v := [iV v6]) (S := []) (pc := 67) hC dX10_strike_67 cl_10_143 rfl rfl (Nat.le_of_ble_eq_true rfl) cr_X8_many hq ?_
        exact st_ireturn (pc := 70) hC dX10_strike_70 trivial h
      · exact st_throw (pc := 42) (E := 3) (k := 189) hC (by decide) dX10_strike_42 dX10_strike_45 rfl dX10_strike_46 dX10_strike_48 dX10_strike_51 h
  · exact st_invVx (As := [iV x1]) (S := []) (pc := 2) hC dX10_strike_2 cl_10_129 rfl rfl (Nat.le_of_ble_eq_true rfl) cr_X10_needPerson hq h
theorem bX10_treasury_0 {C : Nat → List Vv → Sg → Rs → Sg → Prop} {X : Nat → List Vv → List Vv → Sg → Prop} {Xr : List Vv → Sg → Prop} {Xt : Nat → Sg → Prop} (hC : Clo C 10 cX10_treasury (some .int) X Xr Xt) {x1 : Int} {σ : Sg} (h : ∃ v1 : Int, C MX8_numberOf [rV 17 7, iV x1] σ (.inl [iV v1]) σ ∧ (∃ v2 : Int, C MX8_inTreasury [rV 17 7, iV v1] σ (.inl [iV v2]) σ ∧ (Xr [iV v2] σ))) : X 0 [rV 19 0, iV x1] [] σ := by
  refine st_aload_n (pc := 0) hC dX10_treasury_0 rfl (by decide) (by decide) ?_
  refine st_getf (ci := 9) (f := 4) (v := rV 17 7) (pc := 1) hC dX10_treasury_1 fl_10_26 rfl rfl ?_
  refine st_aload_n (pc := 4) hC dX10_treasury_4 rfl (by decide) (by decide) ?_
  refine st_getf (ci := 9) (f := 4) (v := rV 17 7) (pc := 5) hC dX10_treasury_5 fl_10_26 rfl rfl ?_
  refine st_iload_n (pc := 8) hC dX10_treasury_8 rfl ?_
  obtain ⟨v1, hq, h⟩ := h
  refine st_invV (As := [iV x1]) (v := [iV v1]) (S := [rV 17 7]) (pc := 9) hC dX10_treasury_9 cl_10_132 rfl rfl (Nat.le_of_ble_eq_true rfl) cr_X8_numberOf hq ?_
  obtain ⟨v2, hq, h⟩ := h
  refine st_invV (As := [iV v1]) (v := [iV v2]) (S := []) (pc := 12) hC dX10_treasury_12 cl_10_196 rfl rfl (Nat.le_of_ble_eq_true rfl) cr_X8_inTreasury hq ?_
  exact st_ireturn (pc := 15) hC dX10_treasury_15 trivial h
theorem bX10_readOut_0 {C : Nat → List Vv → Sg → Rs → Sg → Prop} {X : Nat → List Vv → List Vv → Sg → Prop} {Xr : List Vv → Sg → Prop} {Xt : Nat → Sg → Prop} (hC : Clo C 10 cX10_readOut (some .long) X Xr Xt) {x1 : Int} {σ : Sg} (h : if x1 < 1 then (Xt 2 σ) else (if (1000000000 : Int) < x1 then (Xt 2 σ) else (x1 ≠ 0 ∧ (X 31 [rV 19 0, lV x1, uV, lV ((1 : Int).tmod x1), uV, iV 0] [] σ)))) : X 0 [rV 19 0, lV x1, uV, uV, uV, uV] [] σ := by
  refine st_lload_n (pc := 0) hC dX10_readOut_0 rfl ?_
  refine st_lconst1 (pc := 1) hC dX10_readOut_1 ?_
  refine st_lcmp_lt (tg := 14) (pc := 2) hC dX10_readOut_2 dX10_readOut_3 (by decide) (ite_im h (fun h => ?_) (fun h => ?_))
  · exact st_throw (pc := 14) (E := 2) (k := 201) hC (by decide) dX10_readOut_14 dX10_readOut_17 rfl dX10_readOut_18 dX10_readOut_20 dX10_readOut_23 h
  · refine st_lload_n (pc := 6) hC dX10_readOut_6 rfl ?_
    refine st_ldc2 (pc := 7) hC dX10_readOut_7 rfl ?_
    refine st_lcmp_le (tg := 24) (pc := 10) hC dX10_readOut_10 dX10_readOut_11 (by decide) (ite_im h (fun h => ?_) (fun h => ?_))
    · exact st_throw (pc := 14) (E := 2) (k := 201) hC (by decide) dX10_readOut_14 dX10_readOut_17 rfl dX10_readOut_18 dX10_readOut_20 dX10_readOut_23 h
    · refine st_lconst1 (pc := 24) hC dX10_readOut_24 ?_
      refine st_lload_n (pc := 25) hC dX10_readOut_25 rfl ?_
      obtain ⟨h0, h⟩ := h
      refine st_lrem (pc := 26) hC dX10_readOut_26 h0 ?_
      refine st_lstore_n (L2 := [rV 19 0, lV x1, uV, lV ((1 : Int).tmod x1), uV, uV]) (pc := 27) hC dX10_readOut_27 (Nat.le_of_ble_eq_true rfl) rfl ?_
      refine st_iconst (pc := 28) hC dX10_readOut_28 (by decide) ?_
      refine st_istore (L2 := [rV 19 0, lV x1, uV, lV ((1 : Int).tmod x1), uV, iV 0]) (pc := 29) hC dX10_readOut_29 (Nat.le_of_ble_eq_true rfl) rfl ?_
      exact h
theorem bX10_readOut_31 {C : Nat → List Vv → Sg → Rs → Sg → Prop} {X : Nat → List Vv → List Vv → Sg → Prop} {Xr : List Vv → Sg → Prop} {Xt : Nat → Sg → Prop} (hC : Clo C 10 cX10_readOut (some .long) X Xr Xt) {x1 x3 x5 : Int} {σ : Sg} (h : if x5 < (σ 7 1) then (∃ v1 : Int, C MX8_primeOf [rV 17 7, iV x5] σ (.inl [iV v1]) σ ∧ (∃ v2 : Int, C MX8_inTreasury [rV 17 7, iV x5] σ (.inl [iV v2]) σ ∧ (∃ v3 : Int, C MX3_power [lV v1, iV v2, lV x1] σ (.inl [lV v3]) σ ∧ (x1 ≠ 0 ∧ (X 31 [rV 19 0, lV x1, uV, lV ((w64 (x3 * v3)).tmod x1), uV, iV (w32 (x5 + 1))] [] σ))))) else (Xr [lV x3] σ)) : X 31 [rV 19 0, lV x1, uV, lV x3, uV, iV x5] [] σ := by
  refine st_iload (pc := 31) hC dX10_readOut_31 rfl ?_
  refine st_aload_n (pc := 33) hC dX10_readOut_33 rfl (by decide) (by decide) ?_
  refine st_getf (ci := 9) (f := 4) (v := rV 17 7) (pc := 34) hC dX10_readOut_34 fl_10_26 rfl rfl ?_
  refine st_getf (ci := 7) (f := 1) (v := iV (σ 7 1)) (pc := 37) hC dX10_readOut_37 fl_10_117 rfl rfl ?_
  refine st_icmp_ge (tg := 77) (pc := 40) hC dX10_readOut_40 (by decide) (ite_im h (fun h => ?_) (fun h => ?_))
  · refine st_lload_n (pc := 43) hC dX10_readOut_43 rfl ?_
    refine st_aload_n (pc := 44) hC dX10_readOut_44 rfl (by decide) (by decide) ?_
    refine st_getf (ci := 9) (f := 4) (v := rV 17 7) (pc := 45) hC dX10_readOut_45 fl_10_26 rfl rfl ?_
    refine st_iload (pc := 48) hC dX10_readOut_48 rfl ?_
    obtain ⟨v1, hq, h⟩ := h
    refine st_invV (As := [iV x5]) (v := [iV v1]) (S := [lV x3]) (pc := 50) hC dX10_readOut_50 cl_10_125 rfl rfl (Nat.le_of_ble_eq_true rfl) cr_X8_primeOf hq ?_
    refine st_i2l (pc := 53) hC dX10_readOut_53 ?_
    refine st_aload_n (pc := 54) hC dX10_readOut_54 rfl (by decide) (by decide) ?_
    refine st_getf (ci := 9) (f := 4) (v := rV 17 7) (pc := 55) hC dX10_readOut_55 fl_10_26 rfl rfl ?_
    refine st_iload (pc := 58) hC dX10_readOut_58 rfl ?_
    obtain ⟨v2, hq, h⟩ := h
    refine st_invV (As := [iV x5]) (v := [iV v2]) (S := [lV v1, lV x3]) (pc := 60) hC dX10_readOut_60 cl_10_196 rfl rfl (Nat.le_of_ble_eq_true rfl) cr_X8_inTreasury hq ?_
    refine st_lload_n (pc := 63) hC dX10_readOut_63 rfl ?_
    obtain ⟨v3, hq, h⟩ := h
    refine st_invS (As := [lV v1, iV v2, lV x1]) (v := [lV v3]) (S := [lV x3]) (pc := 64) hC dX10_readOut_64 cl_10_203 rfl rfl (Nat.le_of_ble_eq_true rfl) hq ?_
    refine st_lmul (pc := 67) hC dX10_readOut_67 ?_
    refine st_lload_n (pc := 68) hC dX10_readOut_68 rfl ?_
    obtain ⟨h0, h⟩ := h
    refine st_lrem (pc := 69) hC dX10_readOut_69 h0 ?_
    refine st_lstore_n (L2 := [rV 19 0, lV x1, uV, lV ((w64 (x3 * v3)).tmod x1), uV, iV x5]) (pc := 70) hC dX10_readOut_70 (Nat.le_of_ble_eq_true rfl) rfl ?_
    refine st_iinc (L2 := [rV 19 0, lV x1, uV, lV ((w64 (x3 * v3)).tmod x1), uV, iV (w32 (x5 + 1))]) (pc := 71) hC dX10_readOut_71 rfl (Nat.le_of_ble_eq_true rfl) rfl ?_
    refine st_goto (tg := 31) (pc := 74) hC dX10_readOut_74 (by decide) ?_
    exact h
  · refine st_lload_n (pc := 77) hC dX10_readOut_77 rfl ?_
    exact st_lreturn (pc := 78) hC dX10_readOut_78 h
theorem bX10_year_0 {C : Nat → List Vv → Sg → Rs → Sg → Prop} {X : Nat → List Vv → List Vv → Sg → Prop} {Xr : List Vv → Sg → Prop} {Xt : Nat → Sg → Prop} (hC : Clo C 10 cX10_year (some .int) X Xr Xt) {x1 x2 : Int} {σ : Sg} (h : if x2 < 1 then (Xt 2 σ) else (if (60 : Int) < x2 then (Xt 2 σ) else (if (σ 7 2) = 0 then (Xt 3 σ) else (X 54 [rV 19 0, iV x1, iV x2, iV 0, iV 0] [] (upS σ 65 0 x1))))) : X 0 [rV 19 0, iV x1, iV x2, uV, uV] [] σ := by
  refine st_iload_n (pc := 0) hC dX10_year_0 rfl ?_
  refine st_iconst (pc := 1) hC dX10_year_1 (by decide) ?_
  refine st_icmp_lt (tg := 11) (pc := 2) hC dX10_year_2 (by decide) (ite_im h (fun h => ?_) (fun h => ?_))
  · exact st_throw (pc := 11) (E := 2) (k := 209) hC (by decide) dX10_year_11 dX10_year_14 rfl dX10_year_15 dX10_year_17 dX10_year_20 h
  · refine st_iload_n (pc := 5) hC dX10_year_5 rfl ?_
    refine st_bipush (pc := 6) hC dX10_year_6 (by decide) ?_
    refine st_icmp_le (tg := 21) (pc := 8) hC dX10_year_8 (by decide) (ite_im h (fun h => ?_) (fun h => ?_))
    · exact st_throw (pc := 11) (E := 2) (k := 209) hC (by decide) dX10_year_11 dX10_year_14 rfl dX10_year_15 dX10_year_17 dX10_year_20 h
    · refine st_aload_n (pc := 21) hC dX10_year_21 rfl (by decide) (by decide) ?_
      refine st_getf (ci := 9) (f := 4) (v := rV 17 7) (pc := 22) hC dX10_year_22 fl_10_26 rfl rfl ?_
      refine st_getf (ci := 7) (f := 2) (v := iV (σ 7 2)) (pc := 25) hC dX10_year_25 fl_10_211 rfl rfl ?_
      refine st_if_ne (tg := 41) (pc := 28) hC dX10_year_28 (by decide) (ite_im h (fun h => ?_) (fun h => ?_))
      · exact st_throw (pc := 31) (E := 3) (k := 214) hC (by decide) dX10_year_31 dX10_year_34 rfl dX10_year_35 dX10_year_37 dX10_year_40 h
      · refine st_aload_n (pc := 41) hC dX10_year_41 rfl (by decide) (by decide) ?_
        refine st_getf (ci := 9) (f := 14) (v := rV 12 65) (pc := 42) hC dX10_year_42 fl_10_81 rfl rfl ?_
        refine st_iload_n (pc := 45) hC dX10_year_45 rfl ?_
        refine st_putfI (ci := 2) (f := 0) (pc := 46) hC dX10_year_46 fl_10_216 rfl rfl ?_
        refine st_iconst (pc := 49) hC dX10_year_49 (by decide) ?_
        refine st_istore_n (L2 := [rV 19 0, iV x1, iV x2, iV 0, uV]) (pc := 50) hC dX10_year_50 (Nat.le_of_ble_eq_true rfl) rfl ?_
        refine st_iconst (pc := 51) hC dX10_year_51 (by decide) ?_
        refine st_istore (L2 := [rV 19 0, iV x1, iV x2, iV 0, iV 0]) (pc := 52) hC dX10_year_52 (Nat.le_of_ble_eq_true rfl) rfl ?_
        exact h
theorem bX10_year_54 {C : Nat → List Vv → Sg → Rs → Sg → Prop} {X : Nat → List Vv → List Vv → Sg → Prop} {Xr : List Vv → Sg → Prop} {Xt : Nat → Sg → Prop} (hC : Clo C 10 cX10_year (some .int) X Xr Xt) {x1 x2 x3 x4 : Int} {σ : Sg} (h : if x4 < x2 then (∃ v1 : Int, ∃ σ1 : Sg, C MX10_yearStep [rV 19 0] σ (.inl [iV v1]) σ1 ∧ (X 54 [rV 19 0, iV x1, iV x2, iV (w32 (x3 + v1)), iV (w32 (x4 + 1))] [] σ1)) else (Xr [iV x3] σ)) : X 54 [rV 19 0, iV x1, iV x2, iV x3, iV x4] [] σ := by
  refine st_iload (pc := 54) hC dX10_year_54 rfl ?_
  refine st_iload_n (pc := 56) hC dX10_year_56 rfl ?_
  refine st_icmp_ge (tg := 73) (pc := 57) hC dX10_year_57 (by decide) (ite_im h (fun h => ?_) (fun h => ?_))
  · refine st_iload_n (pc := 60) hC dX10_year_60 rfl ?_
    refine st_aload_n (pc := 61) hC dX10_year_61 rfl (by decide) (by decide) ?_
    obtain ⟨v1, σ1, hq, h⟩ := h
    refine st_invV (As := []) (v := [iV v1]) (S := [iV x3]) (pc := 62) hC dX10_year_62 cl_10_219 rfl rfl (Nat.le_of_ble_eq_true rfl) cr_X10_yearStep hq ?_
    refine st_iadd (pc := 65) hC dX10_year_65 ?_
    refine st_istore_n (L2 := [rV 19 0, iV x1, iV x2, iV (w32 (x3 + v1)), iV x4]) (pc := 66) hC dX10_year_66 (Nat.le_of_ble_eq_true rfl) rfl ?_
    refine st_iinc (L2 := [rV 19 0, iV x1, iV x2, iV (w32 (x3 + v1)), iV (w32 (x4 + 1))]) (pc := 67) hC dX10_year_67 rfl (Nat.le_of_ble_eq_true rfl) rfl ?_
    refine st_goto (tg := 54) (pc := 70) hC dX10_year_70 (by decide) ?_
    exact h
  · refine st_iload_n (pc := 73) hC dX10_year_73 rfl ?_
    exact st_ireturn (pc := 74) hC dX10_year_74 trivial h
theorem bX10_judge_0 {C : Nat → List Vv → Sg → Rs → Sg → Prop} {X : Nat → List Vv → List Vv → Sg → Prop} {Xr : List Vv → Sg → Prop} {Xt : Nat → Sg → Prop} (hC : Clo C 10 cX10_judge (some .int) X Xr Xt) {x1 x2 : Int} {σ : Sg} (h : (∃ v1 : Nat, C MX10_needTray [rV 19 0, iV x1] σ (.inl [rV 18 v1]) σ ∧ ((C MX10_needWhat [rV 19 0, iV x2, iV 2] σ (.inl []) σ ∧ (∃ σ5 : Sg, C MX8_become [rV 17 80, rV 17 7] σ (.inl []) σ5 ∧ (∃ v6 : Int, ∃ σ6 : Sg, C MX8_makeDeals [rV 17 80, rV 18 v1] σ5 (.inl [iV v6]) σ6 ∧ (if x2 = 2 then (∃ v7 : Int, C MX8_richest [rV 17 80] σ6 (.inl [iV v7]) σ6 ∧ (Xr [iV v7] σ6)) else (if v6 = (σ6 v1 1) then (if x2 = 0 then (Xr [iV (-1)] σ6) else (Xr [iV 0] σ6)) else (if x2 = 0 then (Xr [iV v6] σ6) else (∃ v8 : Int, C MX9_at [rV 18 v1, iV v6] σ6 (.inl [lV v8]) σ6 ∧ (∃ v9 : Int, C MX8_dealFault [rV 17 80, lV v8] σ6 (.inl [iV v9]) σ6 ∧ (Xr [iV v9] σ6))))))))) ∨ (∃ E4 : Nat, C MX10_needWhat [rV 19 0, iV x2, iV 2] σ (.inr E4) σ ∧ Xt E4 σ))) ∨ (∃ E2 : Nat, C MX10_needTray [rV 19 0, iV x1] σ (.inr E2) σ ∧ Xt E2 σ)) : X 0 [rV 19 0, iV x1, iV x2, uV, uV] [] σ := by
  refine st_aload_n (pc := 0) hC dX10_judge_0 rfl (by decide) (by decide) ?_
  refine st_iload_n (pc := 1) hC dX10_judge_1 rfl ?_
  rcases h with ⟨v1, hq, h⟩ | ⟨E2, hq, h⟩
  · refine st_invV (As := [iV x1]) (v := [rV 18 v1]) (S := []) (pc := 2) hC dX10_judge_2 cl_10_223 rfl rfl (Nat.le_of_ble_eq_true rfl) cr_X10_needTray hq ?_
    refine st_astore_n (L2 := [rV 19 0, iV x1, iV x2, rV 18 v1, uV]) (pc := 5) hC dX10_judge_5 (by decide) (by decide) (Nat.le_of_ble_eq_true rfl) rfl ?_
    refine st_aload_n (pc := 6) hC dX10_judge_6 rfl (by decide) (by decide) ?_
    refine st_iload_n (pc := 7) hC dX10_judge_7 rfl ?_
    refine st_iconst (pc := 8) hC dX10_judge_8 (by decide) ?_
    rcases h with ⟨hq, h⟩ | ⟨E4, hq, h⟩
    · refine st_invV (As := [iV x2, iV 2]) (v := []) (S := []) (pc := 9) hC dX10_judge_9 cl_10_139 rfl rfl (Nat.le_of_ble_eq_true rfl) cr_X10_needWhat hq ?_
      refine st_aload_n (pc := 12) hC dX10_judge_12 rfl (by decide) (by decide) ?_
      refine st_getf (ci := 9) (f := 5) (v := rV 17 80) (pc := 13) hC dX10_judge_13 fl_10_30 rfl rfl ?_
      refine st_aload_n (pc := 16) hC dX10_judge_16 rfl (by decide) (by decide) ?_
      refine st_getf (ci := 9) (f := 4) (v := rV 17 7) (pc := 17) hC dX10_judge_17 fl_10_26 rfl rfl ?_
      obtain ⟨σ5, hq, h⟩ := h
      refine st_invV (As := [rV 17 7]) (v := []) (S := []) (pc := 20) hC dX10_judge_20 cl_10_110 rfl rfl (Nat.le_of_ble_eq_true rfl) cr_X8_become hq ?_
      refine st_aload_n (pc := 23) hC dX10_judge_23 rfl (by decide) (by decide) ?_
      refine st_getf (ci := 9) (f := 5) (v := rV 17 80) (pc := 24) hC dX10_judge_24 fl_10_30 rfl rfl ?_
      refine st_aload_n (pc := 27) hC dX10_judge_27 rfl (by decide) (by decide) ?_
      obtain ⟨v6, σ6, hq, h⟩ := h
      refine st_invV (As := [rV 18 v1]) (v := [iV v6]) (S := []) (pc := 28) hC dX10_judge_28 cl_10_227 rfl rfl (Nat.le_of_ble_eq_true rfl) cr_X8_makeDeals hq ?_
      refine st_istore (L2 := [rV 19 0, iV x1, iV x2, rV 18 v1, iV v6]) (pc := 31) hC dX10_judge_31 (Nat.le_of_ble_eq_true rfl) rfl ?_
      refine st_iload_n (pc := 33) hC dX10_judge_33 rfl ?_
      refine st_iconst (pc := 34) hC dX10_judge_34 (by decide) ?_
      refine st_icmp_ne (tg := 46) (pc := 35) hC dX10_judge_35 (by decide) (ite_im h (fun h => ?_) (fun h => ?_))
      · refine st_aload_n (pc := 38) hC dX10_judge_38 rfl (by decide) (by decide) ?_
        refine st_getf (ci := 9) (f := 5) (v := rV 17 80) (pc := 39) hC dX10_judge_39 fl_10_30 rfl rfl ?_
        obtain ⟨v7, hq, h⟩ := h
        refine st_invV (As := []) (v := [iV v7]) (S := []) (pc := 42) hC dX10_judge_42 cl_10_231 rfl rfl (Nat.le_of_ble_eq_true rfl) cr_X8_richest hq ?_
        exact st_ireturn (pc := 45) hC dX10_judge_45 trivial h
      · refine st_iload (pc := 46) hC dX10_judge_46 rfl ?_
        refine st_aload_n (pc := 48) hC dX10_judge_48 rfl (by decide) (by decide) ?_
        refine st_getf (ci := 8) (f := 1) (v := iV (σ6 v1 1)) (pc := 49) hC dX10_judge_49 fl_10_234 rfl rfl ?_
        refine st_icmp_ne (tg := 65) (pc := 52) hC dX10_judge_52 (by decide) (ite_im h (fun h => ?_) (fun h => ?_))
        · refine st_iload_n (pc := 55) hC dX10_judge_55 rfl ?_
          refine st_if_ne (tg := 63) (pc := 56) hC dX10_judge_56 (by decide) (ite_im h (fun h => ?_) (fun h => ?_))
          · refine st_iconst (pc := 59) hC dX10_judge_59 (by decide) ?_
            refine st_goto (tg := 64) (pc := 60) hC dX10_judge_60 (by decide) ?_
            exact st_ireturn (pc := 64) hC dX10_judge_64 trivial h
          · refine st_iconst (pc := 63) hC dX10_judge_63 (by decide) ?_
            exact st_ireturn (pc := 64) hC dX10_judge_64 trivial h
        · refine st_iload_n (pc := 65) hC dX10_judge_65 rfl ?_
          refine st_if_ne (tg := 74) (pc := 66) hC dX10_judge_66 (by decide) (ite_im h (fun h => ?_) (fun h => ?_))
          · refine st_iload (pc := 69) hC dX10_judge_69 rfl ?_
            refine st_goto (tg := 87) (pc := 71) hC dX10_judge_71 (by decide) ?_
            exact st_ireturn (pc := 87) hC dX10_judge_87 trivial h
          · refine st_aload_n (pc := 74) hC dX10_judge_74 rfl (by decide) (by decide) ?_
            refine st_getf (ci := 9) (f := 5) (v := rV 17 80) (pc := 75) hC dX10_judge_75 fl_10_30 rfl rfl ?_
            refine st_aload_n (pc := 78) hC dX10_judge_78 rfl (by decide) (by decide) ?_
            refine st_iload (pc := 79) hC dX10_judge_79 rfl ?_
            obtain ⟨v8, hq, h⟩ := h
            refine st_invV (As := [iV v6]) (v := [lV v8]) (S := [rV 17 80]) (pc := 81) hC dX10_judge_81 cl_10_236 rfl rfl (Nat.le_of_ble_eq_true rfl) cr_X9_at hq ?_
            obtain ⟨v9, hq, h⟩ := h
            refine st_invV (As := [lV v8]) (v := [iV v9]) (S := []) (pc := 84) hC dX10_judge_84 cl_10_239 rfl rfl (Nat.le_of_ble_eq_true rfl) cr_X8_dealFault hq ?_
            exact st_ireturn (pc := 87) hC dX10_judge_87 trivial h
    · exact st_invVx (As := [iV x2, iV 2]) (S := []) (pc := 9) hC dX10_judge_9 cl_10_139 rfl rfl (Nat.le_of_ble_eq_true rfl) cr_X10_needWhat hq h
  · exact st_invVx (As := [iV x1]) (S := []) (pc := 2) hC dX10_judge_2 cl_10_223 rfl rfl (Nat.le_of_ble_eq_true rfl) cr_X10_needTray hq h
theorem bX10_perform_0 {C : Nat → List Vv → Sg → Rs → Sg → Prop} {X : Nat → List Vv → List Vv → Sg → Prop} {Xr : List Vv → Sg → Prop} {Xt : Nat → Sg → Prop} (hC : Clo C 10 cX10_perform (some .int) X Xr Xt) {x1 : Int} {σ : Sg} (h : (∃ v1 : Nat, C MX10_needTray [rV 19 0, iV x1] σ (.inl [rV 18 v1]) σ ∧ (∃ v3 : Int, ∃ σ3 : Sg, C MX8_makeDeals [rV 17 7, rV 18 v1] σ (.inl [iV v3]) σ3 ∧ (Xr [iV v3] σ3))) ∨ (∃ E2 : Nat, C MX10_needTray [rV 19 0, iV x1] σ (.inr E2) σ ∧ Xt E2 σ)) : X 0 [rV 19 0, iV x1] [] σ := by
  refine st_aload_n (pc := 0) hC dX10_perform_0 rfl (by decide) (by decide) ?_
  refine st_getf (ci := 9) (f := 4) (v := rV 17 7) (pc := 1) hC dX10_perform_1 fl_10_26 rfl rfl ?_
  refine st_aload_n (pc := 4) hC dX10_perform_4 rfl (by decide) (by decide) ?_
  refine st_iload_n (pc := 5) hC dX10_perform_5 rfl ?_
  rcases h with ⟨v1, hq, h⟩ | ⟨E2, hq, h⟩
  · refine st_invV (As := [iV x1]) (v := [rV 18 v1]) (S := [rV 17 7]) (pc := 6) hC dX10_perform_6 cl_10_223 rfl rfl (Nat.le_of_ble_eq_true rfl) cr_X10_needTray hq ?_
    obtain ⟨v3, σ3, hq, h⟩ := h
    refine st_invV (As := [rV 18 v1]) (v := [iV v3]) (S := []) (pc := 9) hC dX10_perform_9 cl_10_227 rfl rfl (Nat.le_of_ble_eq_true rfl) cr_X8_makeDeals hq ?_
    exact st_ireturn (pc := 12) hC dX10_perform_12 trivial h
  · exact st_invVx (As := [iV x1]) (S := [rV 17 7]) (pc := 6) hC dX10_perform_6 cl_10_223 rfl rfl (Nat.le_of_ble_eq_true rfl) cr_X10_needTray hq h
theorem bX10_prices_0 {C : Nat → List Vv → Sg → Rs → Sg → Prop} {X : Nat → List Vv → List Vv → Sg → Prop} {Xr : List Vv → Sg → Prop} {Xt : Nat → Sg → Prop} (hC : Clo C 10 cX10_prices (some .int) X Xr Xt) {x1 : Int} {σ : Sg} (h : (C MX10_needPerson [rV 19 0, iV x1] σ (.inl []) σ ∧ (∃ v3 : Int, C MX8_smoothPrices [rV 17 7, iV x1, iV 97] σ (.inl [iV v3]) σ ∧ (Xr [iV v3] σ))) ∨ (∃ E2 : Nat, C MX10_needPerson [rV 19 0, iV x1] σ (.inr E2) σ ∧ Xt E2 σ)) : X 0 [rV 19 0, iV x1] [] σ := by
  refine st_aload_n (pc := 0) hC dX10_prices_0 rfl (by decide) (by decide) ?_
  refine st_iload_n (pc := 1) hC dX10_prices_1 rfl ?_
  rcases h with ⟨hq, h⟩ | ⟨E2, hq, h⟩
  · refine st_invV (As := [iV x1]) (v := []) (S := []) (pc := 2) hC dX10_prices_2 cl_10_129 rfl rfl (Nat.le_of_ble_eq_true rfl) cr_X10_needPerson hq ?_
    refine st_aload_n (pc := 5) hC dX10_prices_5 rfl (by decide) (by decide) ?_
    refine st_getf (ci := 9) (f := 4) (v := rV 17 7) (pc := 6) hC dX10_prices_6 fl_10_26 rfl rfl ?_
    refine st_iload_n (pc := 9) hC dX10_prices_9 rfl ?_
    refine st_bipush (pc := 10) hC dX10_prices_10 (by decide) ?_
    obtain ⟨v3, hq, h⟩ := h
    refine st_invV (As := [iV x1, iV 97]) (v := [iV v3]) (S := []) (pc := 12) hC dX10_prices_12 cl_10_243 rfl rfl (Nat.le_of_ble_eq_true rfl) cr_X8_smoothPrices hq ?_
    exact st_ireturn (pc := 15) hC dX10_prices_15 trivial h
  · exact st_invVx (As := [iV x1]) (S := []) (pc := 2) hC dX10_prices_2 cl_10_129 rfl rfl (Nat.le_of_ble_eq_true rfl) cr_X10_needPerson hq h
theorem bX10_price_0 {C : Nat → List Vv → Sg → Rs → Sg → Prop} {X : Nat → List Vv → List Vv → Sg → Prop} {Xr : List Vv → Sg → Prop} {Xt : Nat → Sg → Prop} (hC : Clo C 10 cX10_price (some .long) X Xr Xt) {x1 x2 : Int} {σ : Sg} (h : (C MX10_needPerson [rV 19 0, iV x1] σ (.inl []) σ ∧ (∃ σ3 : Sg, C MX4_fill [rV 13 54, rV 17 7, iV x1] σ (.inl []) σ3 ∧ (if x2 < 0 then (Xr [lV (-1)] σ3) else (if x2 < (σ3 54 0) then (∃ v4 : Int, C MX4_at [rV 13 54, iV x2] σ3 (.inl [lV v4]) σ3 ∧ (Xr [lV v4] σ3)) else (Xr [lV (-1)] σ3))))) ∨ (∃ E2 : Nat, C MX10_needPerson [rV 19 0, iV x1] σ (.inr E2) σ ∧ Xt E2 σ)) : X 0 [rV 19 0, iV x1, iV x2] [] σ := by
  refine st_aload_n (pc := 0) hC dX10_price_0 rfl (by decide) (by decide) ?_
  refine st_iload_n (pc := 1) hC dX10_price_1 rfl ?_
  rcases h with ⟨hq, h⟩ | ⟨E2, hq, h⟩
  · refine st_invV (As := [iV x1]) (v := []) (S := []) (pc := 2) hC dX10_price_2 cl_10_129 rfl rfl (Nat.le_of_ble_eq_true rfl) cr_X10_needPerson hq ?_
    refine st_aload_n (pc := 5) hC dX10_price_5 rfl (by decide) (by decide) ?_
    refine st_getf (ci := 9) (f := 11) (v := rV 13 54) (pc := 6) hC dX10_price_6 fl_10_60 rfl rfl ?_
    refine st_aload_n (pc := 9) hC dX10_price_9 rfl (by decide) (by decide) ?_
    refine st_getf (ci := 9) (f := 4) (v := rV 17 7) (pc := 10) hC dX10_price_10 fl_10_26 rfl rfl ?_
    refine st_iload_n (pc := 13) hC dX10_price_13 rfl ?_
    obtain ⟨σ3, hq, h⟩ := h
    refine st_invV (As := [rV 17 7, iV x1]) (v := []) (S := []) (pc := 14) hC dX10_price_14 cl_10_246 rfl rfl (Nat.le_of_ble_eq_true rfl) cr_X4_fill hq ?_
    refine st_iload_n (pc := 17) hC dX10_price_17 rfl ?_
    refine st_if_lt (tg := 32) (pc := 18) hC dX10_price_18 (by decide) (ite_im h (fun h => ?_) (fun h => ?_))
    · refine st_ldc2 (pc := 32) hC dX10_price_32 rfl ?_
      refine st_goto (tg := 46) (pc := 35) hC dX10_price_35 (by decide) ?_
      exact st_lreturn (pc := 46) hC dX10_price_46 h
    · refine st_iload_n (pc := 21) hC dX10_price_21 rfl ?_
      refine st_aload_n (pc := 22) hC dX10_price_22 rfl (by decide) (by decide) ?_
      refine st_getf (ci := 9) (f := 11) (v := rV 13 54) (pc := 23) hC dX10_price_23 fl_10_60 rfl rfl ?_
      refine st_getf (ci := 3) (f := 0) (v := iV (σ3 54 0)) (pc := 26) hC dX10_price_26 fl_10_250 rfl rfl ?_
      refine st_icmp_lt (tg := 38) (pc := 29) hC dX10_price_29 (by decide) (ite_im h (fun h => ?_) (fun h => ?_))
      · refine st_aload_n (pc := 38) hC dX10_price_38 rfl (by decide) (by decide) ?_
        refine st_getf (ci := 9) (f := 11) (v := rV 13 54) (pc := 39) hC dX10_price_39 fl_10_60 rfl rfl ?_
        refine st_iload_n (pc := 42) hC dX10_price_42 rfl ?_
        obtain ⟨v4, hq, h⟩ := h
        refine st_invV (As := [iV x2]) (v := [lV v4]) (S := []) (pc := 43) hC dX10_price_43 cl_10_253 rfl rfl (Nat.le_of_ble_eq_true rfl) cr_X4_at hq ?_
        exact st_lreturn (pc := 46) hC dX10_price_46 h
      · refine st_ldc2 (pc := 32) hC dX10_price_32 rfl ?_
        refine st_goto (tg := 46) (pc := 35) hC dX10_price_35 (by decide) ?_
        exact st_lreturn (pc := 46) hC dX10_price_46 h
  · exact st_invVx (As := [iV x1]) (S := []) (pc := 2) hC dX10_price_2 cl_10_129 rfl rfl (Nat.le_of_ble_eq_true rfl) cr_X10_needPerson hq h
theorem bX10_gap_0 {C : Nat → List Vv → Sg → Rs → Sg → Prop} {X : Nat → List Vv → List Vv → Sg → Prop} {Xr : List Vv → Sg → Prop} {Xt : Nat → Sg → Prop} (hC : Clo C 10 cX10_gap (some .long) X Xr Xt) {x1 : Int} {σ : Sg} (h : (C MX10_needPerson [rV 19 0, iV x1] σ (.inl []) σ ∧ (∃ σ3 : Sg, C MX4_fill [rV 13 54, rV 17 7, iV x1] σ (.inl []) σ3 ∧ (∃ v4 : Int, C MX4_widest [rV 13 54] σ3 (.inl [lV v4]) σ3 ∧ (Xr [lV v4] σ3)))) ∨ (∃ E2 : Nat, C MX10_needPerson [rV 19 0, iV x1] σ (.inr E2) σ ∧ Xt E2 σ)) : X 0 [rV 19 0, iV x1] [] σ := by
  refine st_aload_n (pc := 0) hC dX10_gap_0 rfl (by decide) (by decide) ?_
  refine st_iload_n (pc := 1) hC dX10_gap_1 rfl ?_
  rcases h with ⟨hq, h⟩ | ⟨E2, hq, h⟩
  · refine st_invV (As := [iV x1]) (v := []) (S := []) (pc := 2) hC dX10_gap_2 cl_10_129 rfl rfl (Nat.le_of_ble_eq_true rfl) cr_X10_needPerson hq ?_
    refine st_aload_n (pc := 5) hC dX10_gap_5 rfl (by decide) (by decide) ?_
    refine st_getf (ci := 9) (f := 11) (v := rV 13 54) (pc := 6) hC dX10_gap_6 fl_10_60 rfl rfl ?_
    refine st_aload_n (pc := 9) hC dX10_gap_9 rfl (by decide) (by decide) ?_
    refine st_getf (ci := 9) (f := 4) (v := rV 17 7) (pc := 10) hC dX10_gap_10 fl_10_26 rfl rfl ?_
    refine st_iload_n (pc := 13) hC dX10_gap_13 rfl ?_
    obtain ⟨σ3, hq, h⟩ := h
    refine st_invV (As := [rV 17 7, iV x1]) (v := []) (S := []) (pc := 14) hC dX10_gap_14 cl_10_246 rfl rfl (Nat.le_of_ble_eq_true rfl) cr_X4_fill hq ?_
    refine st_aload_n (pc := 17) hC dX10_gap_17 rfl (by decide) (by decide) ?_
    refine st_getf (ci := 9) (f := 11) (v := rV 13 54) (pc := 18) hC dX10_gap_18 fl_10_60 rfl rfl ?_
    obtain ⟨v4, hq, h⟩ := h
    refine st_invV (As := []) (v := [lV v4]) (S := []) (pc := 21) hC dX10_gap_21 cl_10_254 rfl rfl (Nat.le_of_ble_eq_true rfl) cr_X4_widest hq ?_
    exact st_lreturn (pc := 24) hC dX10_gap_24 h
  · exact st_invVx (As := [iV x1]) (S := []) (pc := 2) hC dX10_gap_2 cl_10_129 rfl rfl (Nat.le_of_ble_eq_true rfl) cr_X10_needPerson hq h
theorem bX10_nearest_0 {C : Nat → List Vv → Sg → Rs → Sg → Prop} {X : Nat → List Vv → List Vv → Sg → Prop} {Xr : List Vv → Sg → Prop} {Xt : Nat → Sg → Prop} (hC : Clo C 10 cX10_nearest (some .long) X Xr Xt) {x1 x2 : Int} {σ : Sg} (h : (C MX10_needPerson [rV 19 0, iV x1] σ (.inl []) σ ∧ (∃ σ3 : Sg, C MX4_fill [rV 13 54, rV 17 7, iV x1] σ (.inl []) σ3 ∧ (∃ v4 : Int, C MX4_nearestTo [rV 13 54, lV x2] σ3 (.inl [lV v4]) σ3 ∧ (Xr [lV v4] σ3)))) ∨ (∃ E2 : Nat, C MX10_needPerson [rV 19 0, iV x1] σ (.inr E2) σ ∧ Xt E2 σ)) : X 0 [rV 19 0, iV x1, lV x2, uV] [] σ := by
  refine st_aload_n (pc := 0) hC dX10_nearest_0 rfl (by decide) (by decide) ?_
  refine st_iload_n (pc := 1) hC dX10_nearest_1 rfl ?_
  rcases h with ⟨hq, h⟩ | ⟨E2, hq, h⟩
  · refine st_invV (As := [iV x1]) (v := []) (S := []) (pc := 2) hC dX10_nearest_2 cl_10_129 rfl rfl (Nat.le_of_ble_eq_true rfl) cr_X10_needPerson hq ?_
    refine st_aload_n (pc := 5) hC dX10_nearest_5 rfl (by decide) (by decide) ?_
    refine st_getf (ci := 9) (f := 11) (v := rV 13 54) (pc := 6) hC dX10_nearest_6 fl_10_60 rfl rfl ?_
    refine st_aload_n (pc := 9) hC dX10_nearest_9 rfl (by decide) (by decide) ?_
    refine st_getf (ci := 9) (f := 4) (v := rV 17 7) (pc := 10) hC dX10_nearest_10 fl_10_26 rfl rfl ?_
    refine st_iload_n (pc := 13) hC dX10_nearest_13 rfl ?_
    obtain ⟨σ3, hq, h⟩ := h
    refine st_invV (As := [rV 17 7, iV x1]) (v := []) (S := []) (pc := 14) hC dX10_nearest_14 cl_10_246 rfl rfl (Nat.le_of_ble_eq_true rfl) cr_X4_fill hq ?_
    refine st_aload_n (pc := 17) hC dX10_nearest_17 rfl (by decide) (by decide) ?_
    refine st_getf (ci := 9) (f := 11) (v := rV 13 54) (pc := 18) hC dX10_nearest_18 fl_10_60 rfl rfl ?_
    refine st_lload_n (pc := 21) hC dX10_nearest_21 rfl ?_
    obtain ⟨v4, hq, h⟩ := h
    refine st_invV (As := [lV x2]) (v := [lV v4]) (S := []) (pc := 22) hC dX10_nearest_22 cl_10_258 rfl rfl (Nat.le_of_ble_eq_true rfl) cr_X4_nearestTo hq ?_
    exact st_lreturn (pc := 25) hC dX10_nearest_25 h
  · exact st_invVx (As := [iV x1]) (S := []) (pc := 2) hC dX10_nearest_2 cl_10_129 rfl rfl (Nat.le_of_ble_eq_true rfl) cr_X10_needPerson hq h
theorem bX10_half_0 {C : Nat → List Vv → Sg → Rs → Sg → Prop} {X : Nat → List Vv → List Vv → Sg → Prop} {Xr : List Vv → Sg → Prop} {Xt : Nat → Sg → Prop} (hC : Clo C 10 cX10_half (some .long) X Xr Xt) {x1 : Int} {σ : Sg} (h : (C MX10_needPerson [rV 19 0, iV x1] σ (.inl []) σ ∧ (∃ σ3 : Sg, C MX4_fill [rV 13 54, rV 17 7, iV x1] σ (.inl []) σ3 ∧ (∃ v4 : Int, C MX8_worthOf [rV 17 7, iV x1] σ3 (.inl [lV v4]) σ3 ∧ (∃ v5 : Int, C MX4_rootOf [rV 13 54, lV v4] σ3 (.inl [lV v5]) σ3 ∧ (Xr [lV v5] σ3))))) ∨ (∃ E2 : Nat, C MX10_needPerson [rV 19 0, iV x1] σ (.inr E2) σ ∧ Xt E2 σ)) : X 0 [rV 19 0, iV x1] [] σ := by
  refine st_aload_n (pc := 0) hC dX10_half_0 rfl (by decide) (by decide) ?_
  refine st_iload_n (pc := 1) hC dX10_half_1 rfl ?_
  rcases h with ⟨hq, h⟩ | ⟨E2, hq, h⟩
  · refine st_invV (As := [iV x1]) (v := []) (S := []) (pc := 2) hC dX10_half_2 cl_10_129 rfl rfl (Nat.le_of_ble_eq_true rfl) cr_X10_needPerson hq ?_
    refine st_aload_n (pc := 5) hC dX10_half_5 rfl (by decide) (by decide) ?_
    refine st_getf (ci := 9) (f := 11) (v := rV 13 54) (pc := 6) hC dX10_half_6 fl_10_60 rfl rfl ?_
    refine st_aload_n (pc := 9) hC dX10_half_9 rfl (by decide) (by decide) ?_
    refine st_getf (ci := 9) (f := 4) (v := rV 17 7) (pc := 10) hC dX10_half_10 fl_10_26 rfl rfl ?_
    refine st_iload_n (pc := 13) hC dX10_half_13 rfl ?_
    obtain ⟨σ3, hq, h⟩ := h
    refine st_invV (As := [rV 17 7, iV x1]) (v := []) (S := []) (pc := 14) hC dX10_half_14 cl_10_246 rfl rfl (Nat.le_of_ble_eq_true rfl) cr_X4_fill hq ?_
    refine st_aload_n (pc := 17) hC dX10_half_17 rfl (by decide) (by decide) ?_
    refine st_getf (ci := 9) (f := 11) (v := rV 13 54) (pc := 18) hC dX10_half_18 fl_10_60 rfl rfl ?_
    refine st_aload_n (pc := 21) hC dX10_half_21 rfl (by decide) (by decide) ?_
    refine st_getf (ci := 9) (f := 4) (v := rV 17 7) (pc := 22) hC dX10_half_22 fl_10_26 rfl rfl ?_
    refine st_iload_n (pc := 25) hC dX10_half_25 rfl ?_
    obtain ⟨v4, hq, h⟩ := h
    refine st_invV (As := [iV x1]) (v := [lV v4]) (S := [rV 13 54]) (pc := 26) hC dX10_half_26 cl_10_155 rfl rfl (Nat.le_of_ble_eq_true rfl) cr_X8_worthOf hq ?_
    obtain ⟨v5, hq, h⟩ := h
    refine st_invV (As := [lV v4]) (v := [lV v5]) (S := []) (pc := 29) hC dX10_half_29 cl_10_262 rfl rfl (Nat.le_of_ble_eq_true rfl) cr_X4_rootOf hq ?_
    exact st_lreturn (pc := 32) hC dX10_half_32 h
  · exact st_invVx (As := [iV x1]) (S := []) (pc := 2) hC dX10_half_2 cl_10_129 rfl rfl (Nat.le_of_ble_eq_true rfl) cr_X10_needPerson hq h
theorem bX10_fewest_0 {C : Nat → List Vv → Sg → Rs → Sg → Prop} {X : Nat → List Vv → List Vv → Sg → Prop} {Xr : List Vv → Sg → Prop} {Xt : Nat → Sg → Prop} (hC : Clo C 10 cX10_fewest (some .int) X Xr Xt) {x1 x2 : Int} {σ : Sg} (h : (C MX10_needPerson [rV 19 0, iV x1] σ (.inl []) σ ∧ ((∃ σ3 : Sg, C MX10_needPrice [rV 19 0, lV x2] σ (.inl []) σ3 ∧ (∃ σ5 : Sg, C MX6_begin [rV 15 57, rV 17 7, iV x1] σ3 (.inl []) σ5 ∧ (X 25 [rV 19 0, iV x1, lV x2, uV, iV 0] [] σ5))) ∨ (∃ E4 : Nat, ∃ σE4 : Sg, C MX10_needPrice [rV 19 0, lV x2] σ (.inr E4) σE4 ∧ Xt E4 σE4))) ∨ (∃ E2 : Nat, C MX10_needPerson [rV 19 0, iV x1] σ (.inr E2) σ ∧ Xt E2 σ)) : X 0 [rV 19 0, iV x1, lV x2, uV, uV] [] σ := by
  refine st_aload_n (pc := 0) hC dX10_fewest_0 rfl (by decide) (by decide) ?_
  refine st_iload_n (pc := 1) hC dX10_fewest_1 rfl ?_
  rcases h with ⟨hq, h⟩ | ⟨E2, hq, h⟩
  · refine st_invV (As := [iV x1]) (v := []) (S := []) (pc := 2) hC dX10_fewest_2 cl_10_129 rfl rfl (Nat.le_of_ble_eq_true rfl) cr_X10_needPerson hq ?_
    refine st_aload_n (pc := 5) hC dX10_fewest_5 rfl (by decide) (by decide) ?_
    refine st_lload_n (pc := 6) hC dX10_fewest_6 rfl ?_
    rcases h with ⟨σ3, hq, h⟩ | ⟨E4, σE4, hq, h⟩
    · refine st_invV (As := [lV x2]) (v := []) (S := []) (pc := 7) hC dX10_fewest_7 cl_10_265 rfl rfl (Nat.le_of_ble_eq_true rfl) cr_X10_needPrice hq ?_
      refine st_aload_n (pc := 10) hC dX10_fewest_10 rfl (by decide) (by decide) ?_
      refine st_getf (ci := 9) (f := 12) (v := rV 15 57) (pc := 11) hC dX10_fewest_11 fl_10_67 rfl rfl ?_
      refine st_aload_n (pc := 14) hC dX10_fewest_14 rfl (by decide) (by decide) ?_
      refine st_getf (ci := 9) (f := 4) (v := rV 17 7) (pc := 15) hC dX10_fewest_15 fl_10_26 rfl rfl ?_
      refine st_iload_n (pc := 18) hC dX10_fewest_18 rfl ?_
      obtain ⟨σ5, hq, h⟩ := h
      refine st_invV (As := [rV 17 7, iV x1]) (v := []) (S := []) (pc := 19) hC dX10_fewest_19 cl_10_269 rfl rfl (Nat.le_of_ble_eq_true rfl) cr_X6_begin hq ?_
      refine st_iconst (pc := 22) hC dX10_fewest_22 (by decide) ?_
      refine st_istore (L2 := [rV 19 0, iV x1, lV x2, uV, iV 0]) (pc := 23) hC dX10_fewest_23 (Nat.le_of_ble_eq_true rfl) rfl ?_
      exact h
    · exact st_invVx (As := [lV x2]) (S := []) (pc := 7) hC dX10_fewest_7 cl_10_265 rfl rfl (Nat.le_of_ble_eq_true rfl) cr_X10_needPrice hq h
  · exact st_invVx (As := [iV x1]) (S := []) (pc := 2) hC dX10_fewest_2 cl_10_129 rfl rfl (Nat.le_of_ble_eq_true rfl) cr_X10_needPerson hq h
theorem bX10_fewest_25 {C : Nat → List Vv → Sg → Rs → Sg → Prop} {X : Nat → List Vv → List Vv → Sg → Prop} {Xr : List Vv → Sg → Prop} {Xt : Nat → Sg → Prop} (hC : Clo C 10 cX10_fewest (some .int) X Xr Xt) {x1 x2 x4 : Int} {σ : Sg} (h : if (3000 : Int) < x4 then (Xr [iV (-1)] σ) else (∃ v1 : Int, C MX6_newOneHolds [rV 15 57, rV 1000008 53] σ (.inl [iV v1]) σ ∧ (if v1 = 0 then (if (3000 : Int) < (σ 57 0) then (Xr [iV (-1000)] σ) else (∃ v2 : Int, C MX6_hasNew [rV 15 57] σ (.inl [iV v2]) σ ∧ (if v2 = 0 then (Xr [iV (-1)] σ) else (∃ σ3 : Sg, C MX6_step [rV 15 57] σ (.inl []) σ3 ∧ (X 25 [rV 19 0, iV x1, lV x2, uV, iV (w32 (x4 + 1))] [] σ3))))) else (Xr [iV x4] σ)))) : X 25 [rV 19 0, iV x1, lV x2, uV, iV x4] [] σ := by
  refine st_iload (pc := 25) hC dX10_fewest_25 rfl ?_
  refine st_sipush (pc := 27) hC dX10_fewest_27 (by decide) ?_
  refine st_icmp_gt (tg := 92) (pc := 30) hC dX10_fewest_30 (by decide) (ite_im h (fun h => ?_) (fun h => ?_))
  · refine st_iconst (pc := 92) hC dX10_fewest_92 (by decide) ?_
    exact st_ireturn (pc := 93) hC dX10_fewest_93 trivial h
  · refine st_aload_n (pc := 33) hC dX10_fewest_33 rfl (by decide) (by decide) ?_
    refine st_getf (ci := 9) (f := 12) (v := rV 15 57) (pc := 34) hC dX10_fewest_34 fl_10_67 rfl rfl ?_
    refine st_aload_n (pc := 37) hC dX10_fewest_37 rfl (by decide) (by decide) ?_
    refine st_getf (ci := 9) (f := 9) (v := rV 1000008 53) (pc := 38) hC dX10_fewest_38 fl_10_47 rfl rfl ?_
    obtain ⟨v1, hq, h⟩ := h
    refine st_invV (As := [rV 1000008 53]) (v := [iV v1]) (S := []) (pc := 41) hC dX10_fewest_41 cl_10_272 rfl rfl (Nat.le_of_ble_eq_true rfl) cr_X6_newOneHolds hq ?_
    refine st_if_eq (tg := 50) (pc := 44) hC dX10_fewest_44 (by decide) (ite_im h (fun h => ?_) (fun h => ?_))
    · refine st_aload_n (pc := 50) hC dX10_fewest_50 rfl (by decide) (by decide) ?_
      refine st_getf (ci := 9) (f := 12) (v := rV 15 57) (pc := 51) hC dX10_fewest_51 fl_10_67 rfl rfl ?_
      refine st_getf (ci := 5) (f := 0) (v := iV (σ 57 0)) (pc := 54) hC dX10_fewest_54 fl_10_276 rfl rfl ?_
      refine st_sipush (pc := 57) hC dX10_fewest_57 (by decide) ?_
      refine st_icmp_le (tg := 67) (pc := 60) hC dX10_fewest_60 (by decide) (ite_im h (fun h => ?_) (fun h => ?_))
      · refine st_sipush (pc := 63) hC dX10_fewest_63 (by decide) ?_
        exact st_ireturn (pc := 66) hC dX10_fewest_66 trivial h
      · refine st_aload_n (pc := 67) hC dX10_fewest_67 rfl (by decide) (by decide) ?_
        refine st_getf (ci := 9) (f := 12) (v := rV 15 57) (pc := 68) hC dX10_fewest_68 fl_10_67 rfl rfl ?_
        obtain ⟨v2, hq, h⟩ := h
        refine st_invV (As := []) (v := [iV v2]) (S := []) (pc := 71) hC dX10_fewest_71 cl_10_279 rfl rfl (Nat.le_of_ble_eq_true rfl) cr_X6_hasNew hq ?_
        refine st_if_ne (tg := 79) (pc := 74) hC dX10_fewest_74 (by decide) (ite_im h (fun h => ?_) (fun h => ?_))
        · refine st_iconst (pc := 77) hC dX10_fewest_77 (by decide) ?_
          exact st_ireturn (pc := 78) hC dX10_fewest_78 trivial h
        · refine st_aload_n (pc := 79) hC dX10_fewest_79 rfl (by decide) (by decide) ?_
          refine st_getf (ci := 9) (f := 12) (v := rV 15 57) (pc := 80) hC dX10_fewest_80 fl_10_67 rfl rfl ?_
          obtain ⟨σ3, hq, h⟩ := h
          refine st_invV (As := []) (v := []) (S := []) (pc := 83) hC dX10_fewest_83 cl_10_283 rfl rfl (Nat.le_of_ble_eq_true rfl) cr_X6_step hq ?_
          refine st_iinc (L2 := [rV 19 0, iV x1, lV x2, uV, iV (w32 (x4 + 1))]) (pc := 86) hC dX10_fewest_86 rfl (Nat.le_of_ble_eq_true rfl) rfl ?_
          refine st_goto (tg := 25) (pc := 89) hC dX10_fewest_89 (by decide) ?_
          exact h
    · refine st_iload (pc := 47) hC dX10_fewest_47 rfl ?_
      exact st_ireturn (pc := 49) hC dX10_fewest_49 trivial h
theorem bX10_together_0 {C : Nat → List Vv → Sg → Rs → Sg → Prop} {X : Nat → List Vv → List Vv → Sg → Prop} {Xr : List Vv → Sg → Prop} {Xt : Nat → Sg → Prop} (hC : Clo C 10 cX10_together (some .int) X Xr Xt) {x1 x2 x4 : Int} {σ : Sg} (h : (C MX10_needSet [rV 19 0, iV x1] σ (.inl []) σ ∧ ((∃ σ3 : Sg, C MX10_needPrice [rV 19 0, lV x2] σ (.inl []) σ3 ∧ ((C MX10_needWhat [rV 19 0, iV x4, iV 1] σ3 (.inl []) σ3 ∧ (X 23 [rV 19 0, iV x1, lV x2, uV, iV x4, iV (-1), iV 0, uV] [] σ3)) ∨ (∃ E6 : Nat, C MX10_needWhat [rV 19 0, iV x4, iV 1] σ3 (.inr E6) σ3 ∧ Xt E6 σ3))) ∨ (∃ E4 : Nat, ∃ σE4 : Sg, C MX10_needPrice [rV 19 0, lV x2] σ (.inr E4) σE4 ∧ Xt E4 σE4))) ∨ (∃ E2 : Nat, C MX10_needSet [rV 19 0, iV x1] σ (.inr E2) σ ∧ Xt E2 σ)) : X 0 [rV 19 0, iV x1, lV x2, uV, iV x4, uV, uV, uV] [] σ := by
  refine st_aload_n (pc := 0) hC dX10_together_0 rfl (by decide) (by decide) ?_
  refine st_iload_n (pc := 1) hC dX10_together_1 rfl ?_
  rcases h with ⟨hq, h⟩ | ⟨E2, hq, h⟩
  · refine st_invV (As := [iV x1]) (v := []) (S := []) (pc := 2) hC dX10_together_2 cl_10_286 rfl rfl (Nat.le_of_ble_eq_true rfl) cr_X10_needSet hq ?_
    refine st_aload_n (pc := 5) hC dX10_together_5 rfl (by decide) (by decide) ?_
    refine st_lload_n (pc := 6) hC dX10_together_6 rfl ?_
    rcases h with ⟨σ3, hq, h⟩ | ⟨E4, σE4, hq, h⟩
    · refine st_invV (As := [lV x2]) (v := []) (S := []) (pc := 7) hC dX10_together_7 cl_10_265 rfl rfl (Nat.le_of_ble_eq_true rfl) cr_X10_needPrice hq ?_
      refine st_aload_n (pc := 10) hC dX10_together_10 rfl (by decide) (by decide) ?_
      refine st_iload (pc := 11) hC dX10_together_11 rfl ?_
      refine st_iconst (pc := 13) hC dX10_together_13 (by decide) ?_
      rcases h with ⟨hq, h⟩ | ⟨E6, hq, h⟩
      · refine st_invV (As := [iV x4, iV 1]) (v := []) (S := []) (pc := 14) hC dX10_together_14 cl_10_139 rfl rfl (Nat.le_of_ble_eq_true rfl) cr_X10_needWhat hq ?_
        refine st_iconst (pc := 17) hC dX10_together_17 (by decide) ?_
        refine st_istore (L2 := [rV 19 0, iV x1, lV x2, uV, iV x4, iV (-1), uV, uV]) (pc := 18) hC dX10_together_18 (Nat.le_of_ble_eq_true rfl) rfl ?_
        refine st_iconst (pc := 20) hC dX10_together_20 (by decide) ?_
        refine st_istore (L2 := [rV 19 0, iV x1, lV x2, uV, iV x4, iV (-1), iV 0, uV]) (pc := 21) hC dX10_together_21 (Nat.le_of_ble_eq_true rfl) rfl ?_
        exact h
      · exact st_invVx (As := [iV x4, iV 1]) (S := []) (pc := 14) hC dX10_together_14 cl_10_139 rfl rfl (Nat.le_of_ble_eq_true rfl) cr_X10_needWhat hq h
    · exact st_invVx (As := [lV x2]) (S := []) (pc := 7) hC dX10_together_7 cl_10_265 rfl rfl (Nat.le_of_ble_eq_true rfl) cr_X10_needPrice hq h
  · exact st_invVx (As := [iV x1]) (S := []) (pc := 2) hC dX10_together_2 cl_10_286 rfl rfl (Nat.le_of_ble_eq_true rfl) cr_X10_needSet hq h
theorem bX10_together_23 {C : Nat → List Vv → Sg → Rs → Sg → Prop} {X : Nat → List Vv → List Vv → Sg → Prop} {Xr : List Vv → Sg → Prop} {Xt : Nat → Sg → Prop} (hC : Clo C 10 cX10_together (some .int) X Xr Xt) {x1 x2 x4 x5 x6 : Int} {σ : Sg} (h : if x1 < x6 then (if x5 = (-1) then (Xr [iV x5] σ) else (if x4 = 1 then (Xr [iV x5] σ) else (∃ v1 : Int, C MJ6_bitCount_0f7a4 [iV x5] σ (.inl [iV v1]) σ ∧ (Xr [iV v1] σ)))) else (if x5 = (-1) then (if (iandI x6 (ixorI x1 (-1))) = 0 then (∃ v2 : Int, C MX8_allHold [rV 17 7, iV x6, rV 1000008 53] σ (.inl [iV v2]) σ ∧ (if v2 = 0 then (X 23 [rV 19 0, iV x1, lV x2, uV, iV x4, iV x5, iV (w32 (x6 + 1)), uV] [] σ) else (X 23 [rV 19 0, iV x1, lV x2, uV, iV x4, iV x6, iV (w32 (x6 + 1)), uV] [] σ))) else (X 23 [rV 19 0, iV x1, lV x2, uV, iV x4, iV x5, iV (w32 (x6 + 1)), uV] [] σ)) else (∃ v3 : Int, C MJ6_bitCount_0f7a4 [iV x6] σ (.inl [iV v3]) σ ∧ (∃ v4 : Int, C MJ6_bitCount_0f7a4 [iV x5] σ (.inl [iV v4]) σ ∧ (if v3 < v4 then (if (iandI x6 (ixorI x1 (-1))) = 0 then (∃ v5 : Int, C MX8_allHold [rV 17 7, iV x6, rV 1000008 53] σ (.inl [iV v5]) σ ∧ (if v5 = 0 then (X 23 [rV 19 0, iV x1, lV x2, uV, iV x4, iV x5, iV (w32 (x6 + 1)), uV] [] σ) else (X 23 [rV 19 0, iV x1, lV x2, uV, iV x4, iV x6, iV (w32 (x6 + 1)), uV] [] σ))) else (X 23 [rV 19 0, iV x1, lV x2, uV, iV x4, iV x5, iV (w32 (x6 + 1)), uV] [] σ)) else (if (iandI x6 (ixorI x1 (-1))) = 0 then (X 23 [rV 19 0, iV x1, lV x2, uV, iV x4, iV x5, iV (w32 (x6 + 1)), uV] [] σ) else (X 23 [rV 19 0, iV x1, lV x2, uV, iV x4, iV x5, iV (w32 (x6 + 1)), uV] [] σ))))))) : X 23 [rV 19 0, iV x1, lV x2, uV, iV x4, iV x5, iV x6, uV] [] σ := by
  refine st_iload (pc := 23) hC dX10_together_23 rfl ?_
  refine st_iload_n (pc := 25) hC dX10_together_25 rfl ?_
  refine st_icmp_gt (tg := 95) (pc := 26) hC dX10_together_26 (by decide) (ite_im h (fun h => ?_) (fun h => ?_))
  · refine st_iload (pc := 95) hC dX10_together_95 rfl ?_
    refine st_iconst (pc := 97) hC dX10_together_97 (by decide) ?_
    refine st_icmp_eq (tg := 107) (pc := 98) hC dX10_together_98 (by decide) (ite_im h (fun h => ?_) (fun h => ?_))
    · refine st_iload (pc := 107) hC dX10_together_107 rfl ?_
      refine st_goto (tg := 117) (pc := 109) hC dX10_together_109 (by decide) ?_
      exact st_ireturn (pc := 117) hC dX10_together_117 trivial h
    · refine st_iload (pc := 101) hC dX10_together_101 rfl ?_
      refine st_iconst (pc := 103) hC dX10_together_103 (by decide) ?_
      refine st_icmp_ne (tg := 112) (pc := 104) hC dX10_together_104 (by decide) (ite_im h (fun h => ?_) (fun h => ?_))
      · refine st_iload (pc := 107) hC dX10_together_107 rfl ?_
        refine st_goto (tg := 117) (pc := 109) hC dX10_together_109 (by decide) ?_
        exact st_ireturn (pc := 117) hC dX10_together_117 trivial h
      · refine st_iload (pc := 112) hC dX10_together_112 rfl ?_
        obtain ⟨v1, hq, h⟩ := h
        refine st_invS (As := [iV x5]) (v := [iV v1]) (S := []) (pc := 114) hC dX10_together_114 cl_10_289 rfl rfl (Nat.le_of_ble_eq_true rfl) hq ?_
        exact st_ireturn (pc := 117) hC dX10_together_117 trivial h
  · refine st_iload (pc := 29) hC dX10_together_29 rfl ?_
    refine st_iconst (pc := 31) hC dX10_together_31 (by decide) ?_
    refine st_icmp_eq (tg := 48) (pc := 32) hC dX10_together_32 (by decide) (ite_im h (fun h => ?_) (fun h => ?_))
    · refine st_iconst (pc := 48) hC dX10_together_48 (by decide) ?_
      refine st_goto (tg := 53) (pc := 49) hC dX10_together_49 (by decide) ?_
      refine st_istore (L2 := [rV 19 0, iV x1, lV x2, uV, iV x4, iV x5, iV x6, iV 1]) (pc := 53) hC dX10_together_53 (Nat.le_of_ble_eq_true rfl) rfl ?_
      refine st_iload (pc := 55) hC dX10_together_55 rfl ?_
      refine st_iload_n (pc := 57) hC dX10_together_57 rfl ?_
      refine st_iconst (pc := 58) hC dX10_together_58 (by decide) ?_
      refine st_ixor (pc := 59) hC dX10_together_59 ?_
      refine st_iand (pc := 60) hC dX10_together_60 ?_
      refine st_if_ne (tg := 89) (pc := 61) hC dX10_together_61 (by decide) (ite_im h (fun h => ?_) (fun h => ?_))
      · refine st_iload (pc := 64) hC dX10_together_64 rfl ?_
        refine st_if_eq (tg := 89) (pc := 66) hC dX10_together_66 (by decide) ?_
        rw [if_neg (by decide)]
        refine st_aload_n (pc := 69) hC dX10_together_69 rfl (by decide) (by decide) ?_
        refine st_getf (ci := 9) (f := 4) (v := rV 17 7) (pc := 70) hC dX10_together_70 fl_10_26 rfl rfl ?_
        refine st_iload (pc := 73) hC dX10_together_73 rfl ?_
        refine st_aload_n (pc := 75) hC dX10_together_75 rfl (by decide) (by decide) ?_
        refine st_getf (ci := 9) (f := 9) (v := rV 1000008 53) (pc := 76) hC dX10_together_76 fl_10_47 rfl rfl ?_
        obtain ⟨v2, hq, h⟩ := h
        refine st_invV (As := [iV x6, rV 1000008 53]) (v := [iV v2]) (S := []) (pc := 79) hC dX10_together_79 cl_10_294 rfl rfl (Nat.le_of_ble_eq_true rfl) cr_X8_allHold hq ?_
        refine st_if_eq (tg := 89) (pc := 82) hC dX10_together_82 (by decide) (ite_im h (fun h => ?_) (fun h => ?_))
        · refine st_iinc (L2 := [rV 19 0, iV x1, lV x2, uV, iV x4, iV x5, iV (w32 (x6 + 1)), iV 1]) (pc := 89) hC dX10_together_89 rfl (Nat.le_of_ble_eq_true rfl) rfl ?_
          refine st_goto (tg := 23) (pc := 92) hC dX10_together_92 (by decide) ?_
          exact st_fg (L2 := [rV 19 0, iV x1, lV x2, uV, iV x4, iV x5, iV (w32 (x6 + 1)), uV]) hC ⟨Or.inl rfl, Or.inl rfl, Or.inl rfl, Or.inl rfl, Or.inl rfl, Or.inl rfl, Or.inl rfl, Or.inr rfl, trivial⟩ h
        · refine st_iload (pc := 85) hC dX10_together_85 rfl ?_
          refine st_istore (L2 := [rV 19 0, iV x1, lV x2, uV, iV x4, iV x6, iV x6, iV 1]) (pc := 87) hC dX10_together_87 (Nat.le_of_ble_eq_true rfl) rfl ?_
          refine st_iinc (L2 := [rV 19 0, iV x1, lV x2, uV, iV x4, iV x6, iV (w32 (x6 + 1)), iV 1]) (pc := 89) hC dX10_together_89 rfl (Nat.le_of_ble_eq_true rfl) rfl ?_
          refine st_goto (tg := 23) (pc := 92) hC dX10_together_92 (by decide) ?_
          exact st_fg (L2 := [rV 19 0, iV x1, lV x2, uV, iV x4, iV x6, iV (w32 (x6 + 1)), uV]) hC ⟨Or.inl rfl, Or.inl rfl, Or.inl rfl, Or.inl rfl, Or.inl rfl, Or.inl rfl, Or.inl rfl, Or.inr rfl, trivial⟩ h
      · refine st_iinc (L2 := [rV 19 0, iV x1, lV x2, uV, iV x4, iV x5, iV (w32 (x6 + 1)), iV 1]) (pc := 89) hC dX10_together_89 rfl (Nat.le_of_ble_eq_true rfl) rfl ?_
        refine st_goto (tg := 23) (pc := 92) hC dX10_together_92 (by decide) ?_
        exact st_fg (L2 := [rV 19 0, iV x1, lV x2, uV, iV x4, iV x5, iV (w32 (x6 + 1)), uV]) hC ⟨Or.inl rfl, Or.inl rfl, Or.inl rfl, Or.inl rfl, Or.inl rfl, Or.inl rfl, Or.inl rfl, Or.inr rfl, trivial⟩ h
    · refine st_iload (pc := 35) hC dX10_together_35 rfl ?_
      obtain ⟨v3, hq, h⟩ := h
      refine st_invS (As := [iV x6]) (v := [iV v3]) (S := []) (pc := 37) hC dX10_together_37 cl_10_289 rfl rfl (Nat.le_of_ble_eq_true rfl) hq ?_
      refine st_iload (pc := 40) hC dX10_together_40 rfl ?_
      obtain ⟨v4, hq, h⟩ := h
      refine st_invS (As := [iV x5]) (v := [iV v4]) (S := [iV v3]) (pc := 42) hC dX10_together_42 cl_10_289 rfl rfl (Nat.le_of_ble_eq_true rfl) hq ?_
      refine st_icmp_ge (tg := 52) (pc := 45) hC dX10_together_45 (by decide) (ite_im h (fun h => ?_) (fun h => ?_))
      · refine st_iconst (pc := 48) hC dX10_together_48 (by decide) ?_
        refine st_goto (tg := 53) (pc := 49) hC dX10_together_49 (by decide) ?_
        refine st_istore (L2 := [rV 19 0, iV x1, lV x2, uV, iV x4, iV x5, iV x6, iV 1]) (pc := 53) hC dX10_together_53 (Nat.le_of_ble_eq_true rfl) rfl ?_
        refine st_iload (pc := 55) hC dX10_together_55 rfl ?_
        refine st_iload_n (pc := 57) hC dX10_together_57 rfl ?_
        refine st_iconst (pc := 58) hC dX10_together_58 (by decide) ?_
        refine st_ixor (pc := 59) hC dX10_together_59 ?_
        refine st_iand (pc := 60) hC dX10_together_60 ?_
        refine st_if_ne (tg := 89) (pc := 61) hC dX10_together_61 (by decide) (ite_im h (fun h => ?_) (fun h => ?_))
        · refine st_iload (pc := 64) hC dX10_together_64 rfl ?_
          refine st_if_eq (tg := 89) (pc := 66) hC dX10_together_66 (by decide) ?_
          rw [if_neg (by decide)]
          refine st_aload_n (pc := 69) hC dX10_together_69 rfl (by decide) (by decide) ?_
          refine st_getf (ci := 9) (f := 4) (v := rV 17 7) (pc := 70) hC dX10_together_70 fl_10_26 rfl rfl ?_
          refine st_iload (pc := 73) hC dX10_together_73 rfl ?_
          refine st_aload_n (pc := 75) hC dX10_together_75 rfl (by decide) (by decide) ?_
          refine st_getf (ci := 9) (f := 9) (v := rV 1000008 53) (pc := 76) hC dX10_together_76 fl_10_47 rfl rfl ?_
          obtain ⟨v5, hq, h⟩ := h
          refine st_invV (As := [iV x6, rV 1000008 53]) (v := [iV v5]) (S := []) (pc := 79) hC dX10_together_79 cl_10_294 rfl rfl (Nat.le_of_ble_eq_true rfl) cr_X8_allHold hq ?_
          refine st_if_eq (tg := 89) (pc := 82) hC dX10_together_82 (by decide) (ite_im h (fun h => ?_) (fun h => ?_))
          · refine st_iinc (L2 := [rV 19 0, iV x1, lV x2, uV, iV x4, iV x5, iV (w32 (x6 + 1)), iV 1]) (pc := 89) hC dX10_together_89 rfl (Nat.le_of_ble_eq_true rfl) rfl ?_
            refine st_goto (tg := 23) (pc := 92) hC dX10_together_92 (by decide) ?_
            exact st_fg (L2 := [rV 19 0, iV x1, lV x2, uV, iV x4, iV x5, iV (w32 (x6 + 1)), uV]) hC ⟨Or.inl rfl, Or.inl rfl, Or.inl rfl, Or.inl rfl, Or.inl rfl, Or.inl rfl, Or.inl rfl, Or.inr rfl, trivial⟩ h
          · refine st_iload (pc := 85) hC dX10_together_85 rfl ?_
            refine st_istore (L2 := [rV 19 0, iV x1, lV x2, uV, iV x4, iV x6, iV x6, iV 1]) (pc := 87) hC dX10_together_87 (Nat.le_of_ble_eq_true rfl) rfl ?_
            refine st_iinc (L2 := [rV 19 0, iV x1, lV x2, uV, iV x4, iV x6, iV (w32 (x6 + 1)), iV 1]) (pc := 89) hC dX10_together_89 rfl (Nat.le_of_ble_eq_true rfl) rfl ?_
            refine st_goto (tg := 23) (pc := 92) hC dX10_together_92 (by decide) ?_
            exact st_fg (L2 := [rV 19 0, iV x1, lV x2, uV, iV x4, iV x6, iV (w32 (x6 + 1)), uV]) hC ⟨Or.inl rfl, Or.inl rfl, Or.inl rfl, Or.inl rfl, Or.inl rfl, Or.inl rfl, Or.inl rfl, Or.inr rfl, trivial⟩ h
        · refine st_iinc (L2 := [rV 19 0, iV x1, lV x2, uV, iV x4, iV x5, iV (w32 (x6 + 1)), iV 1]) (pc := 89) hC dX10_together_89 rfl (Nat.le_of_ble_eq_true rfl) rfl ?_
          refine st_goto (tg := 23) (pc := 92) hC dX10_together_92 (by decide) ?_
          exact st_fg (L2 := [rV 19 0, iV x1, lV x2, uV, iV x4, iV x5, iV (w32 (x6 + 1)), uV]) hC ⟨Or.inl rfl, Or.inl rfl, Or.inl rfl, Or.inl rfl, Or.inl rfl, Or.inl rfl, Or.inl rfl, Or.inr rfl, trivial⟩ h
      · refine st_iconst (pc := 52) hC dX10_together_52 (by decide) ?_
        refine st_istore (L2 := [rV 19 0, iV x1, lV x2, uV, iV x4, iV x5, iV x6, iV 0]) (pc := 53) hC dX10_together_53 (Nat.le_of_ble_eq_true rfl) rfl ?_
        refine st_iload (pc := 55) hC dX10_together_55 rfl ?_
        refine st_iload_n (pc := 57) hC dX10_together_57 rfl ?_
        refine st_iconst (pc := 58) hC dX10_together_58 (by decide) ?_
        refine st_ixor (pc := 59) hC dX10_together_59 ?_
        refine st_iand (pc := 60) hC dX10_together_60 ?_
        refine st_if_ne (tg := 89) (pc := 61) hC dX10_together_61 (by decide) (ite_im h (fun h => ?_) (fun h => ?_))
        · refine st_iload (pc := 64) hC dX10_together_64 rfl ?_
          refine st_if_eq (tg := 89) (pc := 66) hC dX10_together_66 (by decide) ?_
          rw [if_pos (by decide)]
          refine st_iinc (L2 := [rV 19 0, iV x1, lV x2, uV, iV x4, iV x5, iV (w32 (x6 + 1)), iV 0]) (pc := 89) hC dX10_together_89 rfl (Nat.le_of_ble_eq_true rfl) rfl ?_
          refine st_goto (tg := 23) (pc := 92) hC dX10_together_92 (by decide) ?_
          exact st_fg (L2 := [rV 19 0, iV x1, lV x2, uV, iV x4, iV x5, iV (w32 (x6 + 1)), uV]) hC ⟨Or.inl rfl, Or.inl rfl, Or.inl rfl, Or.inl rfl, Or.inl rfl, Or.inl rfl, Or.inl rfl, Or.inr rfl, trivial⟩ h
        · refine st_iinc (L2 := [rV 19 0, iV x1, lV x2, uV, iV x4, iV x5, iV (w32 (x6 + 1)), iV 0]) (pc := 89) hC dX10_together_89 rfl (Nat.le_of_ble_eq_true rfl) rfl ?_
          refine st_goto (tg := 23) (pc := 92) hC dX10_together_92 (by decide) ?_
          exact st_fg (L2 := [rV 19 0, iV x1, lV x2, uV, iV x4, iV x5, iV (w32 (x6 + 1)), uV]) hC ⟨Or.inl rfl, Or.inl rfl, Or.inl rfl, Or.inl rfl, Or.inl rfl, Or.inl rfl, Or.inl rfl, Or.inr rfl, trivial⟩ h
theorem bX10_between_0 {C : Nat → List Vv → Sg → Rs → Sg → Prop} {X : Nat → List Vv → List Vv → Sg → Prop} {Xr : List Vv → Sg → Prop} {Xt : Nat → Sg → Prop} (hC : Clo C 10 cX10_between (some .int) X Xr Xt) {x1 x2 x4 : Int} {σ : Sg} (h : (C MX10_needPerson [rV 19 0, iV x1] σ (.inl []) σ ∧ (∃ σ3 : Sg, C MX4_fill [rV 13 54, rV 17 7, iV x1] σ (.inl []) σ3 ∧ (∃ v4 : Int, C MX4_within [rV 13 54, lV x2, lV x4] σ3 (.inl [iV v4]) σ3 ∧ (Xr [iV v4] σ3)))) ∨ (∃ E2 : Nat, C MX10_needPerson [rV 19 0, iV x1] σ (.inr E2) σ ∧ Xt E2 σ)) : X 0 [rV 19 0, iV x1, lV x2, uV, lV x4, uV] [] σ := by
  refine st_aload_n (pc := 0) hC dX10_between_0 rfl (by decide) (by decide) ?_
  refine st_iload_n (pc := 1) hC dX10_between_1 rfl ?_
  rcases h with ⟨hq, h⟩ | ⟨E2, hq, h⟩
  · refine st_invV (As := [iV x1]) (v := []) (S := []) (pc := 2) hC dX10_between_2 cl_10_129 rfl rfl (Nat.le_of_ble_eq_true rfl) cr_X10_needPerson hq ?_
    refine st_aload_n (pc := 5) hC dX10_between_5 rfl (by decide) (by decide) ?_
    refine st_getf (ci := 9) (f := 11) (v := rV 13 54) (pc := 6) hC dX10_between_6 fl_10_60 rfl rfl ?_
    refine st_aload_n (pc := 9) hC dX10_between_9 rfl (by decide) (by decide) ?_
    refine st_getf (ci := 9) (f := 4) (v := rV 17 7) (pc := 10) hC dX10_between_10 fl_10_26 rfl rfl ?_
    refine st_iload_n (pc := 13) hC dX10_between_13 rfl ?_
    obtain ⟨σ3, hq, h⟩ := h
    refine st_invV (As := [rV 17 7, iV x1]) (v := []) (S := []) (pc := 14) hC dX10_between_14 cl_10_246 rfl rfl (Nat.le_of_ble_eq_true rfl) cr_X4_fill hq ?_
    refine st_aload_n (pc := 17) hC dX10_between_17 rfl (by decide) (by decide) ?_
    refine st_getf (ci := 9) (f := 11) (v := rV 13 54) (pc := 18) hC dX10_between_18 fl_10_60 rfl rfl ?_
    refine st_lload_n (pc := 21) hC dX10_between_21 rfl ?_
    refine st_lload (pc := 22) hC dX10_between_22 rfl ?_
    obtain ⟨v4, hq, h⟩ := h
    refine st_invV (As := [lV x2, lV x4]) (v := [iV v4]) (S := []) (pc := 24) hC dX10_between_24 cl_10_298 rfl rfl (Nat.le_of_ble_eq_true rfl) cr_X4_within hq ?_
    exact st_ireturn (pc := 27) hC dX10_between_27 trivial h
  · exact st_invVx (As := [iV x1]) (S := []) (pc := 2) hC dX10_between_2 cl_10_129 rfl rfl (Nat.le_of_ble_eq_true rfl) cr_X10_needPerson hq h
theorem bX10_dear_0 {C : Nat → List Vv → Sg → Rs → Sg → Prop} {X : Nat → List Vv → List Vv → Sg → Prop} {Xr : List Vv → Sg → Prop} {Xt : Nat → Sg → Prop} (hC : Clo C 10 cX10_dear (some .int) X Xr Xt) {x1 x2 : Int} {σ : Sg} (h : (C MX10_needPerson [rV 19 0, iV x1] σ (.inl []) σ ∧ ((C MX10_needSmallPrime [rV 19 0, iV x2] σ (.inl []) σ ∧ (∃ v5 : Int, C MX8_smoothPrices [rV 17 7, iV x1, iV x2] σ (.inl [iV v5]) σ ∧ (Xr [iV v5] σ))) ∨ (∃ E4 : Nat, C MX10_needSmallPrime [rV 19 0, iV x2] σ (.inr E4) σ ∧ Xt E4 σ))) ∨ (∃ E2 : Nat, C MX10_needPerson [rV 19 0, iV x1] σ (.inr E2) σ ∧ Xt E2 σ)) : X 0 [rV 19 0, iV x1, iV x2] [] σ := by
  refine st_aload_n (pc := 0) hC dX10_dear_0 rfl (by decide) (by decide) ?_
  refine st_iload_n (pc := 1) hC dX10_dear_1 rfl ?_
  rcases h with ⟨hq, h⟩ | ⟨E2, hq, h⟩
  · refine st_invV (As := [iV x1]) (v := []) (S := []) (pc := 2) hC dX10_dear_2 cl_10_129 rfl rfl (Nat.le_of_ble_eq_true rfl) cr_X10_needPerson hq ?_
    refine st_aload_n (pc := 5) hC dX10_dear_5 rfl (by decide) (by decide) ?_
    refine st_iload_n (pc := 6) hC dX10_dear_6 rfl ?_
    rcases h with ⟨hq, h⟩ | ⟨E4, hq, h⟩
    · refine st_invV (As := [iV x2]) (v := []) (S := []) (pc := 7) hC dX10_dear_7 cl_10_302 rfl rfl (Nat.le_of_ble_eq_true rfl) cr_X10_needSmallPrime hq ?_
      refine st_aload_n (pc := 10) hC dX10_dear_10 rfl (by decide) (by decide) ?_
      refine st_getf (ci := 9) (f := 4) (v := rV 17 7) (pc := 11) hC dX10_dear_11 fl_10_26 rfl rfl ?_
      refine st_iload_n (pc := 14) hC dX10_dear_14 rfl ?_
      refine st_iload_n (pc := 15) hC dX10_dear_15 rfl ?_
      obtain ⟨v5, hq, h⟩ := h
      refine st_invV (As := [iV x1, iV x2]) (v := [iV v5]) (S := []) (pc := 16) hC dX10_dear_16 cl_10_243 rfl rfl (Nat.le_of_ble_eq_true rfl) cr_X8_smoothPrices hq ?_
      exact st_ireturn (pc := 19) hC dX10_dear_19 trivial h
    · exact st_invVx (As := [iV x2]) (S := []) (pc := 7) hC dX10_dear_7 cl_10_302 rfl rfl (Nat.le_of_ble_eq_true rfl) cr_X10_needSmallPrime hq h
  · exact st_invVx (As := [iV x1]) (S := []) (pc := 2) hC dX10_dear_2 cl_10_129 rfl rfl (Nat.le_of_ble_eq_true rfl) cr_X10_needPerson hq h
theorem bX10_gainer_0 {C : Nat → List Vv → Sg → Rs → Sg → Prop} {X : Nat → List Vv → List Vv → Sg → Prop} {Xr : List Vv → Sg → Prop} {Xt : Nat → Sg → Prop} (hC : Clo C 10 cX10_gainer (some .int) X Xr Xt) {σ : Sg} (h : if (0 : Int) < (σ 7 3) then (X 18 [rV 19 0, iV 0, iV 1, uV, uV, uV, uV] [] σ) else (X 18 [rV 19 0, iV (-1), iV 1, uV, uV, uV, uV] [] σ)) : X 0 [rV 19 0, uV, uV, uV, uV, uV, uV] [] σ := by
  refine st_aload_n (pc := 0) hC dX10_gainer_0 rfl (by decide) (by decide) ?_
  refine st_getf (ci := 9) (f := 4) (v := rV 17 7) (pc := 1) hC dX10_gainer_1 fl_10_26 rfl rfl ?_
  refine st_getf (ci := 7) (f := 3) (v := iV (σ 7 3)) (pc := 4) hC dX10_gainer_4 fl_10_305 rfl rfl ?_
  refine st_if_le (tg := 14) (pc := 7) hC dX10_gainer_7 (by decide) (ite_im h (fun h => ?_) (fun h => ?_))
  · refine st_iconst (pc := 10) hC dX10_gainer_10 (by decide) ?_
    refine st_goto (tg := 15) (pc := 11) hC dX10_gainer_11 (by decide) ?_
    refine st_istore_n (L2 := [rV 19 0, iV 0, uV, uV, uV, uV, uV]) (pc := 15) hC dX10_gainer_15 (Nat.le_of_ble_eq_true rfl) rfl ?_
    refine st_iconst (pc := 16) hC dX10_gainer_16 (by decide) ?_
    refine st_istore_n (L2 := [rV 19 0, iV 0, iV 1, uV, uV, uV, uV]) (pc := 17) hC dX10_gainer_17 (Nat.le_of_ble_eq_true rfl) rfl ?_
    exact h
  · refine st_iconst (pc := 14) hC dX10_gainer_14 (by decide) ?_
    refine st_istore_n (L2 := [rV 19 0, iV (-1), uV, uV, uV, uV, uV]) (pc := 15) hC dX10_gainer_15 (Nat.le_of_ble_eq_true rfl) rfl ?_
    refine st_iconst (pc := 16) hC dX10_gainer_16 (by decide) ?_
    refine st_istore_n (L2 := [rV 19 0, iV (-1), iV 1, uV, uV, uV, uV]) (pc := 17) hC dX10_gainer_17 (Nat.le_of_ble_eq_true rfl) rfl ?_
    exact h
theorem bX10_gainer_18 {C : Nat → List Vv → Sg → Rs → Sg → Prop} {X : Nat → List Vv → List Vv → Sg → Prop} {Xr : List Vv → Sg → Prop} {Xt : Nat → Sg → Prop} (hC : Clo C 10 cX10_gainer (some .int) X Xr Xt) {x1 x2 : Int} {σ : Sg} (h : if x2 < (σ 7 3) then (∃ v1 : Int, C MX8_sideWorth [rV 17 7, iV x2, iV 1] σ (.inl [iV v1]) σ ∧ (∃ v2 : Int, C MX8_sideWorth [rV 17 7, iV x1, iV 0] σ (.inl [iV v2]) σ ∧ (∃ v3 : Int, C MX8_sideWorth [rV 17 7, iV x1, iV 1] σ (.inl [iV v3]) σ ∧ (∃ v4 : Int, C MX8_sideWorth [rV 17 7, iV x2, iV 0] σ (.inl [iV v4]) σ ∧ (if (w64 (v3 * v4)) < (w64 (v1 * v2)) then (X 18 [rV 19 0, iV x2, iV (w32 (x2 + 1)), uV, uV, uV, uV] [] σ) else (X 18 [rV 19 0, iV x1, iV (w32 (x2 + 1)), uV, uV, uV, uV] [] σ)))))) else (Xr [iV x1] σ)) : X 18 [rV 19 0, iV x1, iV x2, uV, uV, uV, uV] [] σ := by
  refine st_iload_n (pc := 18) hC dX10_gainer_18 rfl ?_
  refine st_aload_n (pc := 19) hC dX10_gainer_19 rfl (by decide) (by decide) ?_
  refine st_getf (ci := 9) (f := 4) (v := rV 17 7) (pc := 20) hC dX10_gainer_20 fl_10_26 rfl rfl ?_
  refine st_getf (ci := 7) (f := 3) (v := iV (σ 7 3)) (pc := 23) hC dX10_gainer_23 fl_10_305 rfl rfl ?_
  refine st_icmp_ge (tg := 89) (pc := 26) hC dX10_gainer_26 (by decide) (ite_im h (fun h => ?_) (fun h => ?_))
  · refine st_aload_n (pc := 29) hC dX10_gainer_29 rfl (by decide) (by decide) ?_
    refine st_getf (ci := 9) (f := 4) (v := rV 17 7) (pc := 30) hC dX10_gainer_30 fl_10_26 rfl rfl ?_
    refine st_iload_n (pc := 33) hC dX10_gainer_33 rfl ?_
    refine st_iconst (pc := 34) hC dX10_gainer_34 (by decide) ?_
    obtain ⟨v1, hq, h⟩ := h
    refine st_invV (As := [iV x2, iV 1]) (v := [iV v1]) (S := []) (pc := 35) hC dX10_gainer_35 cl_10_162 rfl rfl (Nat.le_of_ble_eq_true rfl) cr_X8_sideWorth hq ?_
    refine st_i2l (pc := 38) hC dX10_gainer_38 ?_
    refine st_aload_n (pc := 39) hC dX10_gainer_39 rfl (by decide) (by decide) ?_
    refine st_getf (ci := 9) (f := 4) (v := rV 17 7) (pc := 40) hC dX10_gainer_40 fl_10_26 rfl rfl ?_
    refine st_iload_n (pc := 43) hC dX10_gainer_43 rfl ?_
    refine st_iconst (pc := 44) hC dX10_gainer_44 (by decide) ?_
    obtain ⟨v2, hq, h⟩ := h
    refine st_invV (As := [iV x1, iV 0]) (v := [iV v2]) (S := [lV v1]) (pc := 45) hC dX10_gainer_45 cl_10_162 rfl rfl (Nat.le_of_ble_eq_true rfl) cr_X8_sideWorth hq ?_
    refine st_i2l (pc := 48) hC dX10_gainer_48 ?_
    refine st_lmul (pc := 49) hC dX10_gainer_49 ?_
    refine st_lstore_n (L2 := [rV 19 0, iV x1, iV x2, lV (w64 (v1 * v2)), uV, uV, uV]) (pc := 50) hC dX10_gainer_50 (Nat.le_of_ble_eq_true rfl) rfl ?_
    refine st_aload_n (pc := 51) hC dX10_gainer_51 rfl (by decide) (by decide) ?_
    refine st_getf (ci := 9) (f := 4) (v := rV 17 7) (pc := 52) hC dX10_gainer_52 fl_10_26 rfl rfl ?_
    refine st_iload_n (pc := 55) hC dX10_gainer_55 rfl ?_
    refine st_iconst (pc := 56) hC dX10_gainer_56 (by decide) ?_
    obtain ⟨v3, hq, h⟩ := h
    refine st_invV (As := [iV x1, iV 1]) (v := [iV v3]) (S := []) (pc := 57) hC dX10_gainer_57 cl_10_162 rfl rfl (Nat.le_of_ble_eq_true rfl) cr_X8_sideWorth hq ?_
    refine st_i2l (pc := 60) hC dX10_gainer_60 ?_
    refine st_aload_n (pc := 61) hC dX10_gainer_61 rfl (by decide) (by decide) ?_
    refine st_getf (ci := 9) (f := 4) (v := rV 17 7) (pc := 62) hC dX10_gainer_62 fl_10_26 rfl rfl ?_
    refine st_iload_n (pc := 65) hC dX10_gainer_65 rfl ?_
    refine st_iconst (pc := 66) hC dX10_gainer_66 (by decide) ?_
    obtain ⟨v4, hq, h⟩ := h
    refine st_invV (As := [iV x2, iV 0]) (v := [iV v4]) (S := [lV v3]) (pc := 67) hC dX10_gainer_67 cl_10_162 rfl rfl (Nat.le_of_ble_eq_true rfl) cr_X8_sideWorth hq ?_
    refine st_i2l (pc := 70) hC dX10_gainer_70 ?_
    refine st_lmul (pc := 71) hC dX10_gainer_71 ?_
    refine st_lstore (L2 := [rV 19 0, iV x1, iV x2, lV (w64 (v1 * v2)), uV, lV (w64 (v3 * v4)), uV]) (pc := 72) hC dX10_gainer_72 (Nat.le_of_ble_eq_true rfl) rfl ?_
    refine st_lload_n (pc := 74) hC dX10_gainer_74 rfl ?_
    refine st_lload (pc := 75) hC dX10_gainer_75 rfl ?_
    refine st_lcmp_le (tg := 83) (pc := 77) hC dX10_gainer_77 dX10_gainer_78 (by decide) (ite_im h (fun h => ?_) (fun h => ?_))
    · refine st_iload_n (pc := 81) hC dX10_gainer_81 rfl ?_
      refine st_istore_n (L2 := [rV 19 0, iV x2, iV x2, lV (w64 (v1 * v2)), uV, lV (w64 (v3 * v4)), uV]) (pc := 82) hC dX10_gainer_82 (Nat.le_of_ble_eq_true rfl) rfl ?_
      refine st_iinc (L2 := [rV 19 0, iV x2, iV (w32 (x2 + 1)), lV (w64 (v1 * v2)), uV, lV (w64 (v3 * v4)), uV]) (pc := 83) hC dX10_gainer_83 rfl (Nat.le_of_ble_eq_true rfl) rfl ?_
      refine st_goto (tg := 18) (pc := 86) hC dX10_gainer_86 (by decide) ?_
      exact st_fg (L2 := [rV 19 0, iV x2, iV (w32 (x2 + 1)), uV, uV, uV, uV]) hC ⟨Or.inl rfl, Or.inl rfl, Or.inl rfl, Or.inr rfl, Or.inl rfl, Or.inr rfl, Or.inl rfl, trivial⟩ h
    · refine st_iinc (L2 := [rV 19 0, iV x1, iV (w32 (x2 + 1)), lV (w64 (v1 * v2)), uV, lV (w64 (v3 * v4)), uV]) (pc := 83) hC dX10_gainer_83 rfl (Nat.le_of_ble_eq_true rfl) rfl ?_
      refine st_goto (tg := 18) (pc := 86) hC dX10_gainer_86 (by decide) ?_
      exact st_fg (L2 := [rV 19 0, iV x1, iV (w32 (x2 + 1)), uV, uV, uV, uV]) hC ⟨Or.inl rfl, Or.inl rfl, Or.inl rfl, Or.inr rfl, Or.inl rfl, Or.inr rfl, Or.inl rfl, trivial⟩ h
  · refine st_iload_n (pc := 89) hC dX10_gainer_89 rfl ?_
    exact st_ireturn (pc := 90) hC dX10_gainer_90 trivial h
theorem bX10_grows_0 {C : Nat → List Vv → Sg → Rs → Sg → Prop} {X : Nat → List Vv → List Vv → Sg → Prop} {Xr : List Vv → Sg → Prop} {Xt : Nat → Sg → Prop} (hC : Clo C 10 cX10_grows (some .long) X Xr Xt) {x1 x2 : Int} {σ : Sg} (h : (C MX10_needPerson [rV 19 0, iV x1] σ (.inl []) σ ∧ (if x2 < 0 then (Xt 2 σ) else (if (6 : Int) < x2 then (Xt 2 σ) else (∃ σ3 : Sg, C MX6_begin [rV 15 57, rV 17 7, iV x1] σ (.inl []) σ3 ∧ (∃ v4 : Int, C MX6_dearestNew [rV 15 57, rV 17 7] σ3 (.inl [lV v4]) σ3 ∧ (X 53 [rV 19 0, iV x1, iV x2, lV v4, uV, iV 0] [] σ3)))))) ∨ (∃ E2 : Nat, C MX10_needPerson [rV 19 0, iV x1] σ (.inr E2) σ ∧ Xt E2 σ)) : X 0 [rV 19 0, iV x1, iV x2, uV, uV, uV] [] σ := by
  refine st_aload_n (pc := 0) hC dX10_grows_0 rfl (by decide) (by decide) ?_
  refine st_iload_n (pc := 1) hC dX10_grows_1 rfl ?_
  rcases h with ⟨hq, h⟩ | ⟨E2, hq, h⟩
  · refine st_invV (As := [iV x1]) (v := []) (S := []) (pc := 2) hC dX10_grows_2 cl_10_129 rfl rfl (Nat.le_of_ble_eq_true rfl) cr_X10_needPerson hq ?_
    refine st_iload_n (pc := 5) hC dX10_grows_5 rfl ?_
    refine st_if_lt (tg := 15) (pc := 6) hC dX10_grows_6 (by decide) (ite_im h (fun h => ?_) (fun h => ?_))
    · exact st_throww (pc := 15) (E := 2) (k := 308) hC (by decide) dX10_grows_15 dX10_grows_18 rfl dX10_grows_19 dX10_grows_22 dX10_grows_25 h
    · refine st_iload_n (pc := 9) hC dX10_grows_9 rfl ?_
      refine st_bipush (pc := 10) hC dX10_grows_10 (by decide) ?_
      refine st_icmp_le (tg := 26) (pc := 12) hC dX10_grows_12 (by decide) (ite_im h (fun h => ?_) (fun h => ?_))
      · exact st_throww (pc := 15) (E := 2) (k := 308) hC (by decide) dX10_grows_15 dX10_grows_18 rfl dX10_grows_19 dX10_grows_22 dX10_grows_25 h
      · refine st_aload_n (pc := 26) hC dX10_grows_26 rfl (by decide) (by decide) ?_
        refine st_getf (ci := 9) (f := 12) (v := rV 15 57) (pc := 27) hC dX10_grows_27 fl_10_67 rfl rfl ?_
        refine st_aload_n (pc := 30) hC dX10_grows_30 rfl (by decide) (by decide) ?_
        refine st_getf (ci := 9) (f := 4) (v := rV 17 7) (pc := 31) hC dX10_grows_31 fl_10_26 rfl rfl ?_
        refine st_iload_n (pc := 34) hC dX10_grows_34 rfl ?_
        obtain ⟨σ3, hq, h⟩ := h
        refine st_invV (As := [rV 17 7, iV x1]) (v := []) (S := []) (pc := 35) hC dX10_grows_35 cl_10_269 rfl rfl (Nat.le_of_ble_eq_true rfl) cr_X6_begin hq ?_
        refine st_aload_n (pc := 38) hC dX10_grows_38 rfl (by decide) (by decide) ?_
        refine st_getf (ci := 9) (f := 12) (v := rV 15 57) (pc := 39) hC dX10_grows_39 fl_10_67 rfl rfl ?_
        refine st_aload_n (pc := 42) hC dX10_grows_42 rfl (by decide) (by decide) ?_
        refine st_getf (ci := 9) (f := 4) (v := rV 17 7) (pc := 43) hC dX10_grows_43 fl_10_26 rfl rfl ?_
        obtain ⟨v4, hq, h⟩ := h
        refine st_invV (As := [rV 17 7]) (v := [lV v4]) (S := []) (pc := 46) hC dX10_grows_46 cl_10_310 rfl rfl (Nat.le_of_ble_eq_true rfl) cr_X6_dearestNew hq ?_
        refine st_lstore_n (L2 := [rV 19 0, iV x1, iV x2, lV v4, uV, uV]) (pc := 49) hC dX10_grows_49 (Nat.le_of_ble_eq_true rfl) rfl ?_
        refine st_iconst (pc := 50) hC dX10_grows_50 (by decide) ?_
        refine st_istore (L2 := [rV 19 0, iV x1, iV x2, lV v4, uV, iV 0]) (pc := 51) hC dX10_grows_51 (Nat.le_of_ble_eq_true rfl) rfl ?_
        exact h
  · exact st_invVx (As := [iV x1]) (S := []) (pc := 2) hC dX10_grows_2 cl_10_129 rfl rfl (Nat.le_of_ble_eq_true rfl) cr_X10_needPerson hq h
theorem bX10_grows_53 {C : Nat → List Vv → Sg → Rs → Sg → Prop} {X : Nat → List Vv → List Vv → Sg → Prop} {Xr : List Vv → Sg → Prop} {Xt : Nat → Sg → Prop} (hC : Clo C 10 cX10_grows (some .long) X Xr Xt) {x1 x2 x3 x5 : Int} {σ : Sg} (h : if x5 < x2 then (∃ σ1 : Sg, C MX6_step [rV 15 57] σ (.inl []) σ1 ∧ (if (3000 : Int) < (σ1 57 0) then (Xr [lV (-1000)] σ1) else (∃ v2 : Int, C MX6_dearestNew [rV 15 57, rV 17 7] σ1 (.inl [lV v2]) σ1 ∧ (X 53 [rV 19 0, iV x1, iV x2, lV (max x3 v2), uV, iV (w32 (x5 + 1))] [] σ1)))) else (Xr [lV x3] σ)) : X 53 [rV 19 0, iV x1, iV x2, lV x3, uV, iV x5] [] σ := by
  refine st_iload (pc := 53) hC dX10_grows_53 rfl ?_
  refine st_iload_n (pc := 55) hC dX10_grows_55 rfl ?_
  refine st_icmp_ge (tg := 105) (pc := 56) hC dX10_grows_56 (by decide) (ite_im h (fun h => ?_) (fun h => ?_))
  · refine st_aload_n (pc := 59) hC dX10_grows_59 rfl (by decide) (by decide) ?_
    refine st_getf (ci := 9) (f := 12) (v := rV 15 57) (pc := 60) hC dX10_grows_60 fl_10_67 rfl rfl ?_
    obtain ⟨σ1, hq, h⟩ := h
    refine st_invV (As := []) (v := []) (S := []) (pc := 63) hC dX10_grows_63 cl_10_283 rfl rfl (Nat.le_of_ble_eq_true rfl) cr_X6_step hq ?_
    refine st_aload_n (pc := 66) hC dX10_grows_66 rfl (by decide) (by decide) ?_
    refine st_getf (ci := 9) (f := 12) (v := rV 15 57) (pc := 67) hC dX10_grows_67 fl_10_67 rfl rfl ?_
    refine st_getf (ci := 5) (f := 0) (v := iV (σ1 57 0)) (pc := 70) hC dX10_grows_70 fl_10_276 rfl rfl ?_
    refine st_sipush (pc := 73) hC dX10_grows_73 (by decide) ?_
    refine st_icmp_le (tg := 83) (pc := 76) hC dX10_grows_76 (by decide) (ite_im h (fun h => ?_) (fun h => ?_))
    · refine st_ldc2 (pc := 79) hC dX10_grows_79 rfl ?_
      exact st_lreturn (pc := 82) hC dX10_grows_82 h
    · refine st_lload_n (pc := 83) hC dX10_grows_83 rfl ?_
      refine st_aload_n (pc := 84) hC dX10_grows_84 rfl (by decide) (by decide) ?_
      refine st_getf (ci := 9) (f := 12) (v := rV 15 57) (pc := 85) hC dX10_grows_85 fl_10_67 rfl rfl ?_
      refine st_aload_n (pc := 88) hC dX10_grows_88 rfl (by decide) (by decide) ?_
      refine st_getf (ci := 9) (f := 4) (v := rV 17 7) (pc := 89) hC dX10_grows_89 fl_10_26 rfl rfl ?_
      obtain ⟨v2, hq, h⟩ := h
      refine st_invV (As := [rV 17 7]) (v := [lV v2]) (S := [lV x3]) (pc := 92) hC dX10_grows_92 cl_10_310 rfl rfl (Nat.le_of_ble_eq_true rfl) cr_X6_dearestNew hq ?_
      refine st_lmax (pc := 95) hC dX10_grows_95 rfl (Nat.le_of_ble_eq_true rfl) ?_
      refine st_lstore_n (L2 := [rV 19 0, iV x1, iV x2, lV (max x3 v2), uV, iV x5]) (pc := 98) hC dX10_grows_98 (Nat.le_of_ble_eq_true rfl) rfl ?_
      refine st_iinc (L2 := [rV 19 0, iV x1, iV x2, lV (max x3 v2), uV, iV (w32 (x5 + 1))]) (pc := 99) hC dX10_grows_99 rfl (Nat.le_of_ble_eq_true rfl) rfl ?_
      refine st_goto (tg := 53) (pc := 102) hC dX10_grows_102 (by decide) ?_
      exact h
  · refine st_lload_n (pc := 105) hC dX10_grows_105 rfl ?_
    exact st_lreturn (pc := 106) hC dX10_grows_106 h
theorem bX10_swap_0 {C : Nat → List Vv → Sg → Rs → Sg → Prop} {X : Nat → List Vv → List Vv → Sg → Prop} {Xr : List Vv → Sg → Prop} {Xt : Nat → Sg → Prop} (hC : Clo C 10 cX10_swap (some .long) X Xr Xt) {x1 x2 x3 : Int} {σ : Sg} (h : (C MX10_needTwo [rV 19 0, iV x1, iV x2] σ (.inl []) σ ∧ ((C MX10_needWhat [rV 19 0, iV x3, iV 2] σ (.inl []) σ ∧ (X 24 [rV 19 0, iV x1, iV x2, iV x3, iV (-1), iV (-1), lV 0, uV, iV 0, uV, uV, uV] [] σ)) ∨ (∃ E4 : Nat, C MX10_needWhat [rV 19 0, iV x3, iV 2] σ (.inr E4) σ ∧ Xt E4 σ))) ∨ (∃ E2 : Nat, C MX10_needTwo [rV 19 0, iV x1, iV x2] σ (.inr E2) σ ∧ Xt E2 σ)) : X 0 [rV 19 0, iV x1, iV x2, iV x3, uV, uV, uV, uV, uV, uV, uV, uV] [] σ := by
  refine st_aload_n (pc := 0) hC dX10_swap_0 rfl (by decide) (by decide) ?_
  refine st_iload_n (pc := 1) hC dX10_swap_1 rfl ?_
  refine st_iload_n (pc := 2) hC dX10_swap_2 rfl ?_
  rcases h with ⟨hq, h⟩ | ⟨E2, hq, h⟩
  · refine st_invV (As := [iV x1, iV x2]) (v := []) (S := []) (pc := 3) hC dX10_swap_3 cl_10_165 rfl rfl (Nat.le_of_ble_eq_true rfl) cr_X10_needTwo hq ?_
    refine st_aload_n (pc := 6) hC dX10_swap_6 rfl (by decide) (by decide) ?_
    refine st_iload_n (pc := 7) hC dX10_swap_7 rfl ?_
    refine st_iconst (pc := 8) hC dX10_swap_8 (by decide) ?_
    rcases h with ⟨hq, h⟩ | ⟨E4, hq, h⟩
    · refine st_invV (As := [iV x3, iV 2]) (v := []) (S := []) (pc := 9) hC dX10_swap_9 cl_10_139 rfl rfl (Nat.le_of_ble_eq_true rfl) cr_X10_needWhat hq ?_
      refine st_iconst (pc := 12) hC dX10_swap_12 (by decide) ?_
      refine st_istore (L2 := [rV 19 0, iV x1, iV x2, iV x3, iV (-1), uV, uV, uV, uV, uV, uV, uV]) (pc := 13) hC dX10_swap_13 (Nat.le_of_ble_eq_true rfl) rfl ?_
      refine st_iconst (pc := 15) hC dX10_swap_15 (by decide) ?_
      refine st_istore (L2 := [rV 19 0, iV x1, iV x2, iV x3, iV (-1), iV (-1), uV, uV, uV, uV, uV, uV]) (pc := 16) hC dX10_swap_16 (Nat.le_of_ble_eq_true rfl) rfl ?_
      refine st_lconst0 (pc := 18) hC dX10_swap_18 ?_
      refine st_lstore (L2 := [rV 19 0, iV x1, iV x2, iV x3, iV (-1), iV (-1), lV 0, uV, uV, uV, uV, uV]) (pc := 19) hC dX10_swap_19 (Nat.le_of_ble_eq_true rfl) rfl ?_
      refine st_iconst (pc := 21) hC dX10_swap_21 (by decide) ?_
      refine st_istore (L2 := [rV 19 0, iV x1, iV x2, iV x3, iV (-1), iV (-1), lV 0, uV, iV 0, uV, uV, uV]) (pc := 22) hC dX10_swap_22 (Nat.le_of_ble_eq_true rfl) rfl ?_
      exact h
    · exact st_invVx (As := [iV x3, iV 2]) (S := []) (pc := 9) hC dX10_swap_9 cl_10_139 rfl rfl (Nat.le_of_ble_eq_true rfl) cr_X10_needWhat hq h
  · exact st_invVx (As := [iV x1, iV x2]) (S := []) (pc := 3) hC dX10_swap_3 cl_10_165 rfl rfl (Nat.le_of_ble_eq_true rfl) cr_X10_needTwo hq h
theorem bX10_swap_24 {C : Nat → List Vv → Sg → Rs → Sg → Prop} {X : Nat → List Vv → List Vv → Sg → Prop} {Xr : List Vv → Sg → Prop} {Xt : Nat → Sg → Prop} (hC : Clo C 10 cX10_swap (some .long) X Xr Xt) {x1 x2 x3 x4 x5 x6 x8 : Int} {σ : Sg} (h : if x8 < (σ 7 1) then (X 39 [rV 19 0, iV x1, iV x2, iV x3, iV x4, iV x5, lV x6, uV, iV x8, iV 0, uV, uV] [] σ) else (if x4 = (-1) then (Xr [lV (-1)] σ) else (if x3 = 2 then (Xr [lV x6] σ) else (if x3 = 0 then (∃ v1 : Int, C MX8_primeOf [rV 17 7, iV x4] σ (.inl [iV v1]) σ ∧ (Xr [lV v1] σ)) else (∃ v2 : Int, C MX8_primeOf [rV 17 7, iV x5] σ (.inl [iV v2]) σ ∧ (Xr [lV v2] σ)))))) : X 24 [rV 19 0, iV x1, iV x2, iV x3, iV x4, iV x5, lV x6, uV, iV x8, uV, uV, uV] [] σ := by
  refine st_iload (pc := 24) hC dX10_swap_24 rfl ?_
  refine st_aload_n (pc := 26) hC dX10_swap_26 rfl (by decide) (by decide) ?_
  refine st_getf (ci := 9) (f := 4) (v := rV 17 7) (pc := 27) hC dX10_swap_27 fl_10_26 rfl rfl ?_
  refine st_getf (ci := 7) (f := 1) (v := iV (σ 7 1)) (pc := 30) hC dX10_swap_30 fl_10_117 rfl rfl ?_
  refine st_icmp_ge (tg := 140) (pc := 33) hC dX10_swap_33 (by decide) (ite_im h (fun h => ?_) (fun h => ?_))
  · refine st_iconst (pc := 36) hC dX10_swap_36 (by decide) ?_
    refine st_istore (L2 := [rV 19 0, iV x1, iV x2, iV x3, iV x4, iV x5, lV x6, uV, iV x8, iV 0, uV, uV]) (pc := 37) hC dX10_swap_37 (Nat.le_of_ble_eq_true rfl) rfl ?_
    exact h
  · refine st_iload (pc := 140) hC dX10_swap_140 rfl ?_
    refine st_iconst (pc := 142) hC dX10_swap_142 (by decide) ?_
    refine st_icmp_ne (tg := 150) (pc := 143) hC dX10_swap_143 (by decide) (ite_im h (fun h => ?_) (fun h => ?_))
    · refine st_ldc2 (pc := 146) hC dX10_swap_146 rfl ?_
      exact st_lreturn (pc := 149) hC dX10_swap_149 h
    · refine st_iload_n (pc := 150) hC dX10_swap_150 rfl ?_
      refine st_iconst (pc := 151) hC dX10_swap_151 (by decide) ?_
      refine st_icmp_ne (tg := 158) (pc := 152) hC dX10_swap_152 (by decide) (ite_im h (fun h => ?_) (fun h => ?_))
      · refine st_lload (pc := 155) hC dX10_swap_155 rfl ?_
        exact st_lreturn (pc := 157) hC dX10_swap_157 h
      · refine st_aload_n (pc := 158) hC dX10_swap_158 rfl (by decide) (by decide) ?_
        refine st_getf (ci := 9) (f := 4) (v := rV 17 7) (pc := 159) hC dX10_swap_159 fl_10_26 rfl rfl ?_
        refine st_iload_n (pc := 162) hC dX10_swap_162 rfl ?_
        refine st_if_ne (tg := 171) (pc := 163) hC dX10_swap_163 (by decide) (ite_im h (fun h => ?_) (fun h => ?_))
        · refine st_iload (pc := 166) hC dX10_swap_166 rfl ?_
          refine st_goto (tg := 173) (pc := 168) hC dX10_swap_168 (by decide) ?_
          obtain ⟨v1, hq, h⟩ := h
          refine st_invV (As := [iV x4]) (v := [iV v1]) (S := []) (pc := 173) hC dX10_swap_173 cl_10_125 rfl rfl (Nat.le_of_ble_eq_true rfl) cr_X8_primeOf hq ?_
          refine st_i2l (pc := 176) hC dX10_swap_176 ?_
          exact st_lreturn (pc := 177) hC dX10_swap_177 h
        · refine st_iload (pc := 171) hC dX10_swap_171 rfl ?_
          obtain ⟨v2, hq, h⟩ := h
          refine st_invV (As := [iV x5]) (v := [iV v2]) (S := []) (pc := 173) hC dX10_swap_173 cl_10_125 rfl rfl (Nat.le_of_ble_eq_true rfl) cr_X8_primeOf hq ?_
          refine st_i2l (pc := 176) hC dX10_swap_176 ?_
          exact st_lreturn (pc := 177) hC dX10_swap_177 h
theorem bX10_swap_39 {C : Nat → List Vv → Sg → Rs → Sg → Prop} {X : Nat → List Vv → List Vv → Sg → Prop} {Xr : List Vv → Sg → Prop} {Xt : Nat → Sg → Prop} (hC : Clo C 10 cX10_swap (some .long) X Xr Xt) {x1 x2 x3 x4 x5 x6 x8 x9 : Int} {σ : Sg} (h : if x9 < (σ 7 1) then (if x8 = x9 then (X 39 [rV 19 0, iV x1, iV x2, iV x3, iV x4, iV x5, lV x6, uV, iV x8, iV (w32 (x9 + 1)), uV, uV] [] σ) else (∃ v1 : Int, C MX8_held [rV 17 7, iV x1, iV x8] σ (.inl [iV v1]) σ ∧ (if v1 = 0 then (X 39 [rV 19 0, iV x1, iV x2, iV x3, iV x4, iV x5, lV x6, uV, iV x8, iV (w32 (x9 + 1)), uV, uV] [] σ) else (∃ v2 : Int, C MX8_held [rV 17 7, iV x2, iV x9] σ (.inl [iV v2]) σ ∧ (if v2 = 0 then (X 39 [rV 19 0, iV x1, iV x2, iV x3, iV x4, iV x5, lV x6, uV, iV x8, iV (w32 (x9 + 1)), uV, uV] [] σ) else (∃ v3 : Int, C MX8_differBySwap [rV 17 7, iV x1, iV x2, iV x8, iV x9] σ (.inl [lV v3]) σ ∧ (if x4 = (-1) then (X 39 [rV 19 0, iV x1, iV x2, iV x3, iV x8, iV x9, lV v3, uV, iV x8, iV (w32 (x9 + 1)), uV, uV] [] σ) else (if v3 < x6 then (X 39 [rV 19 0, iV x1, iV x2, iV x3, iV x8, iV x9, lV v3, uV, iV x8, iV (w32 (x9 + 1)), uV, uV] [] σ) else (X 39 [rV 19 0, iV x1, iV x2, iV x3, iV x4, iV x5, lV x6, uV, iV x8, iV (w32 (x9 + 1)), uV, uV] [] σ))))))))) else (X 24 [rV 19 0, iV x1, iV x2, iV x3, iV x4, iV x5, lV x6, uV, iV (w32 (x8 + 1)), uV, uV, uV] [] σ)) : X 39 [rV 19 0, iV x1, iV x2, iV x3, iV x4, iV x5, lV x6, uV, iV x8, iV x9, uV, uV] [] σ := by
  refine st_iload (pc := 39) hC dX10_swap_39 rfl ?_
  refine st_aload_n (pc := 41) hC dX10_swap_41 rfl (by decide) (by decide) ?_
  refine st_getf (ci := 9) (f := 4) (v := rV 17 7) (pc := 42) hC dX10_swap_42 fl_10_26 rfl rfl ?_
  refine st_getf (ci := 7) (f := 1) (v := iV (σ 7 1)) (pc := 45) hC dX10_swap_45 fl_10_117 rfl rfl ?_
  refine st_icmp_ge (tg := 134) (pc := 48) hC dX10_swap_48 (by decide) (ite_im h (fun h => ?_) (fun h => ?_))
  · refine st_iload (pc := 51) hC dX10_swap_51 rfl ?_
    refine st_iload (pc := 53) hC dX10_swap_53 rfl ?_
    refine st_icmp_eq (tg := 128) (pc := 55) hC dX10_swap_55 (by decide) (ite_im h (fun h => ?_) (fun h => ?_))
    · refine st_iinc (L2 := [rV 19 0, iV x1, iV x2, iV x3, iV x4, iV x5, lV x6, uV, iV x8, iV (w32 (x9 + 1)), uV, uV]) (pc := 128) hC dX10_swap_128 rfl (Nat.le_of_ble_eq_true rfl) rfl ?_
      refine st_goto (tg := 39) (pc := 131) hC dX10_swap_131 (by decide) ?_
      exact h
    · refine st_aload_n (pc := 58) hC dX10_swap_58 rfl (by decide) (by decide) ?_
      refine st_getf (ci := 9) (f := 4) (v := rV 17 7) (pc := 59) hC dX10_swap_59 fl_10_26 rfl rfl ?_
      refine st_iload_n (pc := 62) hC dX10_swap_62 rfl ?_
      refine st_iload (pc := 63) hC dX10_swap_63 rfl ?_
      obtain ⟨v1, hq, h⟩ := h
      refine st_invV (As := [iV x1, iV x8]) (v := [iV v1]) (S := []) (pc := 65) hC dX10_swap_65 cl_10_135 rfl rfl (Nat.le_of_ble_eq_true rfl) cr_X8_held hq ?_
      refine st_if_eq (tg := 128) (pc := 68) hC dX10_swap_68 (by decide) (ite_im h (fun h => ?_) (fun h => ?_))
      · refine st_iinc (L2 := [rV 19 0, iV x1, iV x2, iV x3, iV x4, iV x5, lV x6, uV, iV x8, iV (w32 (x9 + 1)), uV, uV]) (pc := 128) hC dX10_swap_128 rfl (Nat.le_of_ble_eq_true rfl) rfl ?_
        refine st_goto (tg := 39) (pc := 131) hC dX10_swap_131 (by decide) ?_
        exact h
      · refine st_aload_n (pc := 71) hC dX10_swap_71 rfl (by decide) (by decide) ?_
        refine st_getf (ci := 9) (f := 4) (v := rV 17 7) (pc := 72) hC dX10_swap_72 fl_10_26 rfl rfl ?_
        refine st_iload_n (pc := 75) hC dX10_swap_75 rfl ?_
        refine st_iload (pc := 76) hC dX10_swap_76 rfl ?_
        obtain ⟨v2, hq, h⟩ := h
        refine st_invV (As := [iV x2, iV x9]) (v := [iV v2]) (S := []) (pc := 78) hC dX10_swap_78 cl_10_135 rfl rfl (Nat.le_of_ble_eq_true rfl) cr_X8_held hq ?_
        refine st_if_ne (tg := 87) (pc := 81) hC dX10_swap_81 (by decide) (ite_im h (fun h => ?_) (fun h => ?_))
        · refine st_goto (tg := 128) (pc := 84) hC dX10_swap_84 (by decide) ?_
          refine st_iinc (L2 := [rV 19 0, iV x1, iV x2, iV x3, iV x4, iV x5, lV x6, uV, iV x8, iV (w32 (x9 + 1)), uV, uV]) (pc := 128) hC dX10_swap_128 rfl (Nat.le_of_ble_eq_true rfl) rfl ?_
          refine st_goto (tg := 39) (pc := 131) hC dX10_swap_131 (by decide) ?_
          exact h
        · refine st_aload_n (pc := 87) hC dX10_swap_87 rfl (by decide) (by decide) ?_
          refine st_getf (ci := 9) (f := 4) (v := rV 17 7) (pc := 88) hC dX10_swap_88 fl_10_26 rfl rfl ?_
          refine st_iload_n (pc := 91) hC dX10_swap_91 rfl ?_
          refine st_iload_n (pc := 92) hC dX10_swap_92 rfl ?_
          refine st_iload (pc := 93) hC dX10_swap_93 rfl ?_
          refine st_iload (pc := 95) hC dX10_swap_95 rfl ?_
          obtain ⟨v3, hq, h⟩ := h
          refine st_invV (As := [iV x1, iV x2, iV x8, iV x9]) (v := [lV v3]) (S := []) (pc := 97) hC dX10_swap_97 cl_10_322 rfl rfl (Nat.le_of_ble_eq_true rfl) cr_X8_differBySwap hq ?_
          refine st_lstore (L2 := [rV 19 0, iV x1, iV x2, iV x3, iV x4, iV x5, lV x6, uV, iV x8, iV x9, lV v3, uV]) (pc := 100) hC dX10_swap_100 (Nat.le_of_ble_eq_true rfl) rfl ?_
          refine st_iload (pc := 102) hC dX10_swap_102 rfl ?_
          refine st_iconst (pc := 104) hC dX10_swap_104 (by decide) ?_
          refine st_icmp_eq (tg := 116) (pc := 105) hC dX10_swap_105 (by decide) (ite_im h (fun h => ?_) (fun h => ?_))
          · refine st_iload (pc := 116) hC dX10_swap_116 rfl ?_
            refine st_istore (L2 := [rV 19 0, iV x1, iV x2, iV x3, iV x8, iV x5, lV x6, uV, iV x8, iV x9, lV v3, uV]) (pc := 118) hC dX10_swap_118 (Nat.le_of_ble_eq_true rfl) rfl ?_
            refine st_iload (pc := 120) hC dX10_swap_120 rfl ?_
            refine st_istore (L2 := [rV 19 0, iV x1, iV x2, iV x3, iV x8, iV x9, lV x6, uV, iV x8, iV x9, lV v3, uV]) (pc := 122) hC dX10_swap_122 (Nat.le_of_ble_eq_true rfl) rfl ?_
            refine st_lload (pc := 124) hC dX10_swap_124 rfl ?_
            refine st_lstore (L2 := [rV 19 0, iV x1, iV x2, iV x3, iV x8, iV x9, lV v3, uV, iV x8, iV x9, lV v3, uV]) (pc := 126) hC dX10_swap_126 (Nat.le_of_ble_eq_true rfl) rfl ?_
            refine st_iinc (L2 := [rV 19 0, iV x1, iV x2, iV x3, iV x8, iV x9, lV v3, uV, iV x8, iV (w32 (x9 + 1)), lV v3, uV]) (pc := 128) hC dX10_swap_128 rfl (Nat.le_of_ble_eq_true rfl) rfl ?_
            refine st_goto (tg := 39) (pc := 131) hC dX10_swap_131 (by decide) ?_
            exact st_fg (L2 := [rV 19 0, iV x1, iV x2, iV x3, iV x8, iV x9, lV v3, uV, iV x8, iV (w32 (x9 + 1)), uV, uV]) hC ⟨Or.inl rfl, Or.inl rfl, Or.inl rfl, Or.inl rfl, Or.inl rfl, Or.inl rfl, Or.inl rfl, Or.inl rfl, Or.inl rfl, Or.inl rfl, Or.inr rfl, Or.inl rfl, trivial⟩ h
          · refine st_lload (pc := 108) hC dX10_swap_108 rfl ?_
            refine st_lload (pc := 110) hC dX10_swap_110 rfl ?_
            refine st_lcmp_ge (tg := 128) (pc := 112) hC dX10_swap_112 dX10_swap_113 (by decide) (ite_im h (fun h => ?_) (fun h => ?_))
            · refine st_iload (pc := 116) hC dX10_swap_116 rfl ?_
              refine st_istore (L2 := [rV 19 0, iV x1, iV x2, iV x3, iV x8, iV x5, lV x6, uV, iV x8, iV x9, lV v3, uV]) (pc := 118) hC dX10_swap_118 (Nat.le_of_ble_eq_true rfl) rfl ?_
              refine st_iload (pc := 120) hC dX10_swap_120 rfl ?_
              refine st_istore (L2 := [rV 19 0, iV x1, iV x2, iV x3, iV x8, iV x9, lV x6, uV, iV x8, iV x9, lV v3, uV]) (pc := 122) hC dX10_swap_122 (Nat.le_of_ble_eq_true rfl) rfl ?_
              refine st_lload (pc := 124) hC dX10_swap_124 rfl ?_
              refine st_lstore (L2 := [rV 19 0, iV x1, iV x2, iV x3, iV x8, iV x9, lV v3, uV, iV x8, iV x9, lV v3, uV]) (pc := 126) hC dX10_swap_126 (Nat.le_of_ble_eq_true rfl) rfl ?_
              refine st_iinc (L2 := [rV 19 0, iV x1, iV x2, iV x3, iV x8, iV x9, lV v3, uV, iV x8, iV (w32 (x9 + 1)), lV v3, uV]) (pc := 128) hC dX10_swap_128 rfl (Nat.le_of_ble_eq_true rfl) rfl ?_
              refine st_goto (tg := 39) (pc := 131) hC dX10_swap_131 (by decide) ?_
              exact st_fg (L2 := [rV 19 0, iV x1, iV x2, iV x3, iV x8, iV x9, lV v3, uV, iV x8, iV (w32 (x9 + 1)), uV, uV]) hC ⟨Or.inl rfl, Or.inl rfl, Or.inl rfl, Or.inl rfl, Or.inl rfl, Or.inl rfl, Or.inl rfl, Or.inl rfl, Or.inl rfl, Or.inl rfl, Or.inr rfl, Or.inl rfl, trivial⟩ h
            · refine st_iinc (L2 := [rV 19 0, iV x1, iV x2, iV x3, iV x4, iV x5, lV x6, uV, iV x8, iV (w32 (x9 + 1)), lV v3, uV]) (pc := 128) hC dX10_swap_128 rfl (Nat.le_of_ble_eq_true rfl) rfl ?_
              refine st_goto (tg := 39) (pc := 131) hC dX10_swap_131 (by decide) ?_
              exact st_fg (L2 := [rV 19 0, iV x1, iV x2, iV x3, iV x4, iV x5, lV x6, uV, iV x8, iV (w32 (x9 + 1)), uV, uV]) hC ⟨Or.inl rfl, Or.inl rfl, Or.inl rfl, Or.inl rfl, Or.inl rfl, Or.inl rfl, Or.inl rfl, Or.inl rfl, Or.inl rfl, Or.inl rfl, Or.inr rfl, Or.inl rfl, trivial⟩ h
  · refine st_iinc (L2 := [rV 19 0, iV x1, iV x2, iV x3, iV x4, iV x5, lV x6, uV, iV (w32 (x8 + 1)), iV x9, uV, uV]) (pc := 134) hC dX10_swap_134 rfl (Nat.le_of_ble_eq_true rfl) rfl ?_
    refine st_goto (tg := 24) (pc := 137) hC dX10_swap_137 (by decide) ?_
    exact st_fg (L2 := [rV 19 0, iV x1, iV x2, iV x3, iV x4, iV x5, lV x6, uV, iV (w32 (x8 + 1)), uV, uV, uV]) hC ⟨Or.inl rfl, Or.inl rfl, Or.inl rfl, Or.inl rfl, Or.inl rfl, Or.inl rfl, Or.inl rfl, Or.inl rfl, Or.inl rfl, Or.inr rfl, Or.inl rfl, Or.inl rfl, trivial⟩ h
theorem bX10_common_0 {C : Nat → List Vv → Sg → Rs → Sg → Prop} {X : Nat → List Vv → List Vv → Sg → Prop} {Xr : List Vv → Sg → Prop} {Xt : Nat → Sg → Prop} (hC : Clo C 10 cX10_common (some .long) X Xr Xt) {x1 x2 : Int} {σ : Sg} (h : (C MX10_needPerson [rV 19 0, iV x1] σ (.inl []) σ ∧ ((C MX10_needPerson [rV 19 0, iV x2] σ (.inl []) σ ∧ (∃ v5 : Int, C MX8_worthOf [rV 17 7, iV x1] σ (.inl [lV v5]) σ ∧ (∃ v6 : Int, C MX8_worthOf [rV 17 7, iV x2] σ (.inl [lV v6]) σ ∧ (∃ v7 : Int, C MX3_commonFactor [lV v5, lV v6] σ (.inl [lV v7]) σ ∧ (Xr [lV v7] σ))))) ∨ (∃ E4 : Nat, C MX10_needPerson [rV 19 0, iV x2] σ (.inr E4) σ ∧ Xt E4 σ))) ∨ (∃ E2 : Nat, C MX10_needPerson [rV 19 0, iV x1] σ (.inr E2) σ ∧ Xt E2 σ)) : X 0 [rV 19 0, iV x1, iV x2] [] σ := by
  refine st_aload_n (pc := 0) hC dX10_common_0 rfl (by decide) (by decide) ?_
  refine st_iload_n (pc := 1) hC dX10_common_1 rfl ?_
  rcases h with ⟨hq, h⟩ | ⟨E2, hq, h⟩
  · refine st_invV (As := [iV x1]) (v := []) (S := []) (pc := 2) hC dX10_common_2 cl_10_129 rfl rfl (Nat.le_of_ble_eq_true rfl) cr_X10_needPerson hq ?_
    refine st_aload_n (pc := 5) hC dX10_common_5 rfl (by decide) (by decide) ?_
    refine st_iload_n (pc := 6) hC dX10_common_6 rfl ?_
    rcases h with ⟨hq, h⟩ | ⟨E4, hq, h⟩
    · refine st_invV (As := [iV x2]) (v := []) (S := []) (pc := 7) hC dX10_common_7 cl_10_129 rfl rfl (Nat.le_of_ble_eq_true rfl) cr_X10_needPerson hq ?_
      refine st_aload_n (pc := 10) hC dX10_common_10 rfl (by decide) (by decide) ?_
      refine st_getf (ci := 9) (f := 4) (v := rV 17 7) (pc := 11) hC dX10_common_11 fl_10_26 rfl rfl ?_
      refine st_iload_n (pc := 14) hC dX10_common_14 rfl ?_
      obtain ⟨v5, hq, h⟩ := h
      refine st_invV (As := [iV x1]) (v := [lV v5]) (S := []) (pc := 15) hC dX10_common_15 cl_10_155 rfl rfl (Nat.le_of_ble_eq_true rfl) cr_X8_worthOf hq ?_
      refine st_aload_n (pc := 18) hC dX10_common_18 rfl (by decide) (by decide) ?_
      refine st_getf (ci := 9) (f := 4) (v := rV 17 7) (pc := 19) hC dX10_common_19 fl_10_26 rfl rfl ?_
      refine st_iload_n (pc := 22) hC dX10_common_22 rfl ?_
      obtain ⟨v6, hq, h⟩ := h
      refine st_invV (As := [iV x2]) (v := [lV v6]) (S := [lV v5]) (pc := 23) hC dX10_common_23 cl_10_155 rfl rfl (Nat.le_of_ble_eq_true rfl) cr_X8_worthOf hq ?_
      obtain ⟨v7, hq, h⟩ := h
      refine st_invS (As := [lV v5, lV v6]) (v := [lV v7]) (S := []) (pc := 26) hC dX10_common_26 cl_10_326 rfl rfl (Nat.le_of_ble_eq_true rfl) hq ?_
      exact st_lreturn (pc := 29) hC dX10_common_29 h
    · exact st_invVx (As := [iV x2]) (S := []) (pc := 7) hC dX10_common_7 cl_10_129 rfl rfl (Nat.le_of_ble_eq_true rfl) cr_X10_needPerson hq h
  · exact st_invVx (As := [iV x1]) (S := []) (pc := 2) hC dX10_common_2 cl_10_129 rfl rfl (Nat.le_of_ble_eq_true rfl) cr_X10_needPerson hq h
theorem bX10_least_0 {C : Nat → List Vv → Sg → Rs → Sg → Prop} {X : Nat → List Vv → List Vv → Sg → Prop} {Xr : List Vv → Sg → Prop} {Xt : Nat → Sg → Prop} (hC : Clo C 10 cX10_least (some .int) X Xr Xt) {x1 x2 : Int} {σ : Sg} (h : (C MX10_needPerson [rV 19 0, iV x1] σ (.inl []) σ ∧ ((C MX10_needPerson [rV 19 0, iV x2] σ (.inl []) σ ∧ (X 15 [rV 19 0, iV x1, iV x2, iV 0, iV 0] [] σ)) ∨ (∃ E4 : Nat, C MX10_needPerson [rV 19 0, iV x2] σ (.inr E4) σ ∧ Xt E4 σ))) ∨ (∃ E2 : Nat, C MX10_needPerson [rV 19 0, iV x1] σ (.inr E2) σ ∧ Xt E2 σ)) : X 0 [rV 19 0, iV x1, iV x2, uV, uV] [] σ := by
  refine st_aload_n (pc := 0) hC dX10_least_0 rfl (by decide) (by decide) ?_
  refine st_iload_n (pc := 1) hC dX10_least_1 rfl ?_
  rcases h with ⟨hq, h⟩ | ⟨E2, hq, h⟩
  · refine st_invV (As := [iV x1]) (v := []) (S := []) (pc := 2) hC dX10_least_2 cl_10_129 rfl rfl (Nat.le_of_ble_eq_true rfl) cr_X10_needPerson hq ?_
    refine st_aload_n (pc := 5) hC dX10_least_5 rfl (by decide) (by decide) ?_
    refine st_iload_n (pc := 6) hC dX10_least_6 rfl ?_
    rcases h with ⟨hq, h⟩ | ⟨E4, hq, h⟩
    · refine st_invV (As := [iV x2]) (v := []) (S := []) (pc := 7) hC dX10_least_7 cl_10_129 rfl rfl (Nat.le_of_ble_eq_true rfl) cr_X10_needPerson hq ?_
      refine st_iconst (pc := 10) hC dX10_least_10 (by decide) ?_
      refine st_istore_n (L2 := [rV 19 0, iV x1, iV x2, iV 0, uV]) (pc := 11) hC dX10_least_11 (Nat.le_of_ble_eq_true rfl) rfl ?_
      refine st_iconst (pc := 12) hC dX10_least_12 (by decide) ?_
      refine st_istore (L2 := [rV 19 0, iV x1, iV x2, iV 0, iV 0]) (pc := 13) hC dX10_least_13 (Nat.le_of_ble_eq_true rfl) rfl ?_
      exact h
    · exact st_invVx (As := [iV x2]) (S := []) (pc := 7) hC dX10_least_7 cl_10_129 rfl rfl (Nat.le_of_ble_eq_true rfl) cr_X10_needPerson hq h
  · exact st_invVx (As := [iV x1]) (S := []) (pc := 2) hC dX10_least_2 cl_10_129 rfl rfl (Nat.le_of_ble_eq_true rfl) cr_X10_needPerson hq h
theorem bX10_least_15 {C : Nat → List Vv → Sg → Rs → Sg → Prop} {X : Nat → List Vv → List Vv → Sg → Prop} {Xr : List Vv → Sg → Prop} {Xt : Nat → Sg → Prop} (hC : Clo C 10 cX10_least (some .int) X Xr Xt) {x1 x2 x3 x4 : Int} {σ : Sg} (h : if x4 < (σ 7 1) then (∃ v1 : Int, C MX8_held [rV 17 7, iV x1, iV x4] σ (.inl [iV v1]) σ ∧ (∃ v2 : Int, C MX8_held [rV 17 7, iV x2, iV x4] σ (.inl [iV v2]) σ ∧ (X 15 [rV 19 0, iV x1, iV x2, iV (w32 (x3 + (max v1 v2))), iV (w32 (x4 + 1))] [] σ))) else (Xr [iV x3] σ)) : X 15 [rV 19 0, iV x1, iV x2, iV x3, iV x4] [] σ := by
  refine st_iload (pc := 15) hC dX10_least_15 rfl ?_
  refine st_aload_n (pc := 17) hC dX10_least_17 rfl (by decide) (by decide) ?_
  refine st_getf (ci := 9) (f := 4) (v := rV 17 7) (pc := 18) hC dX10_least_18 fl_10_26 rfl rfl ?_
  refine st_getf (ci := 7) (f := 1) (v := iV (σ 7 1)) (pc := 21) hC dX10_least_21 fl_10_117 rfl rfl ?_
  refine st_icmp_ge (tg := 59) (pc := 24) hC dX10_least_24 (by decide) (ite_im h (fun h => ?_) (fun h => ?_))
  · refine st_iload_n (pc := 27) hC dX10_least_27 rfl ?_
    refine st_aload_n (pc := 28) hC dX10_least_28 rfl (by decide) (by decide) ?_
    refine st_getf (ci := 9) (f := 4) (v := rV 17 7) (pc := 29) hC dX10_least_29 fl_10_26 rfl rfl ?_
    refine st_iload_n (pc := 32) hC dX10_least_32 rfl ?_
    refine st_iload (pc := 33) hC dX10_least_33 rfl ?_
    obtain ⟨v1, hq, h⟩ := h
    refine st_invV (As := [iV x1, iV x4]) (v := [iV v1]) (S := [iV x3]) (pc := 35) hC dX10_least_35 cl_10_135 rfl rfl (Nat.le_of_ble_eq_true rfl) cr_X8_held hq ?_
    refine st_aload_n (pc := 38) hC dX10_least_38 rfl (by decide) (by decide) ?_
    refine st_getf (ci := 9) (f := 4) (v := rV 17 7) (pc := 39) hC dX10_least_39 fl_10_26 rfl rfl ?_
    refine st_iload_n (pc := 42) hC dX10_least_42 rfl ?_
    refine st_iload (pc := 43) hC dX10_least_43 rfl ?_
    obtain ⟨v2, hq, h⟩ := h
    refine st_invV (As := [iV x2, iV x4]) (v := [iV v2]) (S := [iV v1, iV x3]) (pc := 45) hC dX10_least_45 cl_10_135 rfl rfl (Nat.le_of_ble_eq_true rfl) cr_X8_held hq ?_
    refine st_mmax (pc := 48) hC dX10_least_48 rfl (Nat.le_of_ble_eq_true rfl) ?_
    refine st_iadd (pc := 51) hC dX10_least_51 ?_
    refine st_istore_n (L2 := [rV 19 0, iV x1, iV x2, iV (w32 (x3 + (max v1 v2))), iV x4]) (pc := 52) hC dX10_least_52 (Nat.le_of_ble_eq_true rfl) rfl ?_
    refine st_iinc (L2 := [rV 19 0, iV x1, iV x2, iV (w32 (x3 + (max v1 v2))), iV (w32 (x4 + 1))]) (pc := 53) hC dX10_least_53 rfl (Nat.le_of_ble_eq_true rfl) rfl ?_
    refine st_goto (tg := 15) (pc := 56) hC dX10_least_56 (by decide) ?_
    exact h
  · refine st_iload_n (pc := 59) hC dX10_least_59 rfl ?_
    exact st_ireturn (pc := 60) hC dX10_least_60 trivial h
theorem bX10_friends_0 {C : Nat → List Vv → Sg → Rs → Sg → Prop} {X : Nat → List Vv → List Vv → Sg → Prop} {Xr : List Vv → Sg → Prop} {Xt : Nat → Sg → Prop} (hC : Clo C 10 cX10_friends (some .int) X Xr Xt) {σ : Sg} (h : X 4 [rV 19 0, iV 0, iV 1] [] σ) : X 0 [rV 19 0, uV, uV] [] σ := by
  refine st_iconst (pc := 0) hC dX10_friends_0 (by decide) ?_
  refine st_istore_n (L2 := [rV 19 0, iV 0, uV]) (pc := 1) hC dX10_friends_1 (Nat.le_of_ble_eq_true rfl) rfl ?_
  refine st_iconst (pc := 2) hC dX10_friends_2 (by decide) ?_
  refine st_istore_n (L2 := [rV 19 0, iV 0, iV 1]) (pc := 3) hC dX10_friends_3 (Nat.le_of_ble_eq_true rfl) rfl ?_
  exact h
theorem bX10_friends_4 {C : Nat → List Vv → Sg → Rs → Sg → Prop} {X : Nat → List Vv → List Vv → Sg → Prop} {Xr : List Vv → Sg → Prop} {Xt : Nat → Sg → Prop} (hC : Clo C 10 cX10_friends (some .int) X Xr Xt) {x1 x2 : Int} {σ : Sg} (h : if x2 < (ishlI 1 (σ 7 2)) then (∃ v1 : Int, C MJ6_bitCount_0f7a4 [iV x2] σ (.inl [iV v1]) σ ∧ (∃ v2 : Int, C MJ6_bitCount_0f7a4 [iV x1] σ (.inl [iV v2]) σ ∧ (if v2 < v1 then (∃ v3 : Int, C MX8_shareNoPrime [rV 17 7, iV x2] σ (.inl [iV v3]) σ ∧ (if v3 = 0 then (X 4 [rV 19 0, iV x1, iV (w32 (x2 + 1))] [] σ) else (X 4 [rV 19 0, iV x2, iV (w32 (x2 + 1))] [] σ))) else (X 4 [rV 19 0, iV x1, iV (w32 (x2 + 1))] [] σ)))) else (Xr [iV x1] σ)) : X 4 [rV 19 0, iV x1, iV x2] [] σ := by
  refine st_iload_n (pc := 4) hC dX10_friends_4 rfl ?_
  refine st_iconst (pc := 5) hC dX10_friends_5 (by decide) ?_
  refine st_aload_n (pc := 6) hC dX10_friends_6 rfl (by decide) (by decide) ?_
  refine st_getf (ci := 9) (f := 4) (v := rV 17 7) (pc := 7) hC dX10_friends_7 fl_10_26 rfl rfl ?_
  refine st_getf (ci := 7) (f := 2) (v := iV (σ 7 2)) (pc := 10) hC dX10_friends_10 fl_10_211 rfl rfl ?_
  refine st_ishl (pc := 13) hC dX10_friends_13 ?_
  refine st_icmp_ge (tg := 47) (pc := 14) hC dX10_friends_14 (by decide) (ite_im h (fun h => ?_) (fun h => ?_))
  · refine st_iload_n (pc := 17) hC dX10_friends_17 rfl ?_
    obtain ⟨v1, hq, h⟩ := h
    refine st_invS (As := [iV x2]) (v := [iV v1]) (S := []) (pc := 18) hC dX10_friends_18 cl_10_289 rfl rfl (Nat.le_of_ble_eq_true rfl) hq ?_
    refine st_iload_n (pc := 21) hC dX10_friends_21 rfl ?_
    obtain ⟨v2, hq, h⟩ := h
    refine st_invS (As := [iV x1]) (v := [iV v2]) (S := [iV v1]) (pc := 22) hC dX10_friends_22 cl_10_289 rfl rfl (Nat.le_of_ble_eq_true rfl) hq ?_
    refine st_icmp_le (tg := 41) (pc := 25) hC dX10_friends_25 (by decide) (ite_im h (fun h => ?_) (fun h => ?_))
    · refine st_aload_n (pc := 28) hC dX10_friends_28 rfl (by decide) (by decide) ?_
      refine st_getf (ci := 9) (f := 4) (v := rV 17 7) (pc := 29) hC dX10_friends_29 fl_10_26 rfl rfl ?_
      refine st_iload_n (pc := 32) hC dX10_friends_32 rfl ?_
      obtain ⟨v3, hq, h⟩ := h
      refine st_invV (As := [iV x2]) (v := [iV v3]) (S := []) (pc := 33) hC dX10_friends_33 cl_10_331 rfl rfl (Nat.le_of_ble_eq_true rfl) cr_X8_shareNoPrime hq ?_
      refine st_if_eq (tg := 41) (pc := 36) hC dX10_friends_36 (by decide) (ite_im h (fun h => ?_) (fun h => ?_))
      · refine st_iinc (L2 := [rV 19 0, iV x1, iV (w32 (x2 + 1))]) (pc := 41) hC dX10_friends_41 rfl (Nat.le_of_ble_eq_true rfl) rfl ?_
        refine st_goto (tg := 4) (pc := 44) hC dX10_friends_44 (by decide) ?_
        exact h
      · refine st_iload_n (pc := 39) hC dX10_friends_39 rfl ?_
        refine st_istore_n (L2 := [rV 19 0, iV x2, iV x2]) (pc := 40) hC dX10_friends_40 (Nat.le_of_ble_eq_true rfl) rfl ?_
        refine st_iinc (L2 := [rV 19 0, iV x2, iV (w32 (x2 + 1))]) (pc := 41) hC dX10_friends_41 rfl (Nat.le_of_ble_eq_true rfl) rfl ?_
        refine st_goto (tg := 4) (pc := 44) hC dX10_friends_44 (by decide) ?_
        exact h
    · refine st_iinc (L2 := [rV 19 0, iV x1, iV (w32 (x2 + 1))]) (pc := 41) hC dX10_friends_41 rfl (Nat.le_of_ble_eq_true rfl) rfl ?_
      refine st_goto (tg := 4) (pc := 44) hC dX10_friends_44 (by decide) ?_
      exact h
  · refine st_iload_n (pc := 47) hC dX10_friends_47 rfl ?_
    exact st_ireturn (pc := 48) hC dX10_friends_48 trivial h
theorem bX10_stolen_0 {C : Nat → List Vv → Sg → Rs → Sg → Prop} {X : Nat → List Vv → List Vv → Sg → Prop} {Xr : List Vv → Sg → Prop} {Xt : Nat → Sg → Prop} (hC : Clo C 10 cX10_stolen (some .int) X Xr Xt) {x1 x2 x4 : Int} {σ : Sg} (h : (C MX10_needPerson [rV 19 0, iV x1] σ (.inl []) σ ∧ (if x2 < 2 then (Xt 2 σ) else (if (1000000000 : Int) < x2 then (Xt 2 σ) else (if x4 < 0 then (Xt 2 σ) else (if x4 < x2 then (∃ v3 : Int, C MX8_worthOf [rV 17 7, iV x1] σ (.inl [lV v3]) σ ∧ (X 62 [rV 19 0, iV x1, lV x2, uV, lV x4, uV, lV v3, uV, iV 0, iV 0] [] σ)) else (Xt 2 σ)))))) ∨ (∃ E2 : Nat, C MX10_needPerson [rV 19 0, iV x1] σ (.inr E2) σ ∧ Xt E2 σ)) : X 0 [rV 19 0, iV x1, lV x2, uV, lV x4, uV, uV, uV, uV, uV] [] σ := by
  refine st_aload_n (pc := 0) hC dX10_stolen_0 rfl (by decide) (by decide) ?_
  refine st_iload_n (pc := 1) hC dX10_stolen_1 rfl ?_
  rcases h with ⟨hq, h⟩ | ⟨E2, hq, h⟩
  · refine st_invV (As := [iV x1]) (v := []) (S := []) (pc := 2) hC dX10_stolen_2 cl_10_129 rfl rfl (Nat.le_of_ble_eq_true rfl) cr_X10_needPerson hq ?_
    refine st_lload_n (pc := 5) hC dX10_stolen_5 rfl ?_
    refine st_ldc2 (pc := 6) hC dX10_stolen_6 rfl ?_
    refine st_lcmp_lt (tg := 35) (pc := 9) hC dX10_stolen_9 dX10_stolen_10 (by decide) (ite_im h (fun h => ?_) (fun h => ?_))
    · exact st_throww (pc := 35) (E := 2) (k := 337) hC (by decide) dX10_stolen_35 dX10_stolen_38 rfl dX10_stolen_39 dX10_stolen_42 dX10_stolen_45 h
    · refine st_lload_n (pc := 13) hC dX10_stolen_13 rfl ?_
      refine st_ldc2 (pc := 14) hC dX10_stolen_14 rfl ?_
      refine st_lcmp_gt (tg := 35) (pc := 17) hC dX10_stolen_17 dX10_stolen_18 (by decide) (ite_im h (fun h => ?_) (fun h => ?_))
      · exact st_throww (pc := 35) (E := 2) (k := 337) hC (by decide) dX10_stolen_35 dX10_stolen_38 rfl dX10_stolen_39 dX10_stolen_42 dX10_stolen_45 h
      · refine st_lload (pc := 21) hC dX10_stolen_21 rfl ?_
        refine st_lconst0 (pc := 23) hC dX10_stolen_23 ?_
        refine st_lcmp_lt (tg := 35) (pc := 24) hC dX10_stolen_24 dX10_stolen_25 (by decide) (ite_im h (fun h => ?_) (fun h => ?_))
        · exact st_throww (pc := 35) (E := 2) (k := 337) hC (by decide) dX10_stolen_35 dX10_stolen_38 rfl dX10_stolen_39 dX10_stolen_42 dX10_stolen_45 h
        · refine st_lload (pc := 28) hC dX10_stolen_28 rfl ?_
          refine st_lload_n (pc := 30) hC dX10_stolen_30 rfl ?_
          refine st_lcmp_lt (tg := 46) (pc := 31) hC dX10_stolen_31 dX10_stolen_32 (by decide) (ite_im h (fun h => ?_) (fun h => ?_))
          · refine st_aload_n (pc := 46) hC dX10_stolen_46 rfl (by decide) (by decide) ?_
            refine st_getf (ci := 9) (f := 4) (v := rV 17 7) (pc := 47) hC dX10_stolen_47 fl_10_26 rfl rfl ?_
            refine st_iload_n (pc := 50) hC dX10_stolen_50 rfl ?_
            obtain ⟨v3, hq, h⟩ := h
            refine st_invV (As := [iV x1]) (v := [lV v3]) (S := []) (pc := 51) hC dX10_stolen_51 cl_10_155 rfl rfl (Nat.le_of_ble_eq_true rfl) cr_X8_worthOf hq ?_
            refine st_lstore (L2 := [rV 19 0, iV x1, lV x2, uV, lV x4, uV, lV v3, uV, uV, uV]) (pc := 54) hC dX10_stolen_54 (Nat.le_of_ble_eq_true rfl) rfl ?_
            refine st_iconst (pc := 56) hC dX10_stolen_56 (by decide) ?_
            refine st_istore (L2 := [rV 19 0, iV x1, lV x2, uV, lV x4, uV, lV v3, uV, iV 0, uV]) (pc := 57) hC dX10_stolen_57 (Nat.le_of_ble_eq_true rfl) rfl ?_
            refine st_iconst (pc := 59) hC dX10_stolen_59 (by decide) ?_
            refine st_istore (L2 := [rV 19 0, iV x1, lV x2, uV, lV x4, uV, lV v3, uV, iV 0, iV 0]) (pc := 60) hC dX10_stolen_60 (Nat.le_of_ble_eq_true rfl) rfl ?_
            exact h
          · exact st_throww (pc := 35) (E := 2) (k := 337) hC (by decide) dX10_stolen_35 dX10_stolen_38 rfl dX10_stolen_39 dX10_stolen_42 dX10_stolen_45 h
  · exact st_invVx (As := [iV x1]) (S := []) (pc := 2) hC dX10_stolen_2 cl_10_129 rfl rfl (Nat.le_of_ble_eq_true rfl) cr_X10_needPerson hq h
