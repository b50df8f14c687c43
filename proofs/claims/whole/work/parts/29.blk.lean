theorem bX5_read_0 {C : Nat → List Vv → Sg → Rs → Sg → Prop} {X : Nat → List Vv → List Vv → Sg → Prop} {Xr : List Vv → Sg → Prop} {Xt : Nat → Sg → Prop} (hC : Clo C 5 cX5_read none X Xr Xt) {x2 : Int} {σ : Sg} (h : ∃ σ1 : Sg, C MX7_cutAll [rV 16 2, rV 1000700 6, iV x2] σ (.inl []) σ1 ∧ (∃ σ2 : Sg, C MX8_empty [rV 17 14] (upS (upS (upS σ1 1 4 0) 1 0 0) 1 1 (-1)) (.inl []) σ2 ∧ (∃ v3 : Int, ∃ σ3 : Sg, C MX5_readMint [rV 14 1] σ2 (.inl [iV v3]) σ3 ∧ (X 39 [rV 14 1, rV 1000700 6, iV x2, iV v3, iV 0] [] σ3)))) : X 0 [rV 14 1, rV 1000700 6, iV x2, uV, uV] [] σ := by
  refine st_aload_n (pc := 0) hC dX5_read_0 rfl (by decide) (by decide) ?_
  refine st_getf (ci := 4) (f := 3) (v := rV 16 2) (pc := 1) hC dX5_read_1 fl_5_28 rfl rfl ?_
  refine st_aload_n (pc := 4) hC dX5_read_4 rfl (by decide) (by decide) ?_
  refine st_iload_n (pc := 5) hC dX5_read_5 rfl ?_
  obtain ⟨σ1, hq, h⟩ := h
  refine st_invV (As := [rV 1000700 6, iV x2]) (v := []) (S := []) (pc := 6) hC dX5_read_6 cl_5_35 rfl rfl (Nat.le_of_ble_eq_true rfl) cr_X7_cutAll hq ?_
  refine st_aload_n (pc := 9) hC dX5_read_9 rfl (by decide) (by decide) ?_
  refine st_iconst (pc := 10) hC dX5_read_10 (by decide) ?_
  refine st_putfI (ci := 4) (f := 4) (pc := 11) hC dX5_read_11 fl_5_32 rfl rfl ?_
  refine st_aload_n (pc := 14) hC dX5_read_14 rfl (by decide) (by decide) ?_
  refine st_iconst (pc := 15) hC dX5_read_15 (by decide) ?_
  refine st_putfI (ci := 4) (f := 0) (pc := 16) hC dX5_read_16 fl_5_9 rfl rfl ?_
  refine st_aload_n (pc := 19) hC dX5_read_19 rfl (by decide) (by decide) ?_
  refine st_iconst (pc := 20) hC dX5_read_20 (by decide) ?_
  refine st_putfI (ci := 4) (f := 1) (pc := 21) hC dX5_read_21 fl_5_15 rfl rfl ?_
  refine st_aload_n (pc := 24) hC dX5_read_24 rfl (by decide) (by decide) ?_
  refine st_getf (ci := 4) (f := 2) (v := rV 17 14) (pc := 25) hC dX5_read_25 fl_5_21 rfl rfl ?_
  obtain ⟨σ2, hq, h⟩ := h
  refine st_invV (As := []) (v := []) (S := []) (pc := 28) hC dX5_read_28 cl_5_39 rfl rfl (Nat.le_of_ble_eq_true rfl) cr_X8_empty hq ?_
  refine st_aload_n (pc := 31) hC dX5_read_31 rfl (by decide) (by decide) ?_
  obtain ⟨v3, σ3, hq, h⟩ := h
  refine st_invV (As := []) (v := [iV v3]) (S := []) (pc := 32) hC dX5_read_32 cl_5_42 rfl rfl (Nat.le_of_ble_eq_true rfl) cr_X5_readMint hq ?_
  refine st_istore_n (L2 := [rV 14 1, rV 1000700 6, iV x2, iV v3, uV]) (pc := 35) hC dX5_read_35 (Nat.le_of_ble_eq_true rfl) rfl ?_
  refine st_iconst (pc := 36) hC dX5_read_36 (by decide) ?_
  refine st_istore (L2 := [rV 14 1, rV 1000700 6, iV x2, iV v3, iV 0]) (pc := 37) hC dX5_read_37 (Nat.le_of_ble_eq_true rfl) rfl ?_
  exact h
theorem bX5_read_39 {C : Nat → List Vv → Sg → Rs → Sg → Prop} {X : Nat → List Vv → List Vv → Sg → Prop} {Xr : List Vv → Sg → Prop} {Xt : Nat → Sg → Prop} (hC : Clo C 5 cX5_read none X Xr Xt) {x2 x3 x4 : Int} {σ : Sg} (h : if x4 < 700 then (if x3 = 0 then (Xr [] σ) else (∃ v1 : Int, C MX5_isNext [rV 14 1, iV 0] σ (.inl [iV v1]) σ ∧ (if v1 = 0 then (∃ v2 : Int, C MX5_isNext [rV 14 1, iV 6] σ (.inl [iV v2]) σ ∧ (if v2 = 0 then (∃ v3 : Int, C MX5_isNext [rV 14 1, iV 8] σ (.inl [iV v3]) σ ∧ (if v3 = 0 then (∃ v4 : Int, ∃ σ4 : Sg, C MX5_stop [rV 14 1, iV 2] σ (.inl [iV v4]) σ4 ∧ (X 39 [rV 14 1, rV 1000700 6, iV x2, iV v4, iV (w32 (x4 + 1))] [] σ4)) else (∃ v5 : Int, ∃ σ5 : Sg, C MX5_readChange [rV 14 1] σ (.inl [iV v5]) σ5 ∧ (X 39 [rV 14 1, rV 1000700 6, iV x2, iV v5, iV (w32 (x4 + 1))] [] σ5)))) else (∃ v6 : Int, ∃ σ6 : Sg, C MX5_readPurse [rV 14 1] σ (.inl [iV v6]) σ6 ∧ (X 39 [rV 14 1, rV 1000700 6, iV x2, iV v6, iV (w32 (x4 + 1))] [] σ6)))) else (Xr [] σ)))) else (Xr [] σ)) : X 39 [rV 14 1, rV 1000700 6, iV x2, iV x3, iV x4] [] σ := by
  refine st_iload (pc := 39) hC dX5_read_39 rfl ?_
  refine st_sipush (pc := 41) hC dX5_read_41 (by decide) ?_
  refine st_icmp_ge (tg := 104) (pc := 44) hC dX5_read_44 (by decide) (ite_im h (fun h => ?_) (fun h => ?_))
  · refine st_iload_n (pc := 47) hC dX5_read_47 rfl ?_
    refine st_if_eq (tg := 104) (pc := 48) hC dX5_read_48 (by decide) (ite_im h (fun h => ?_) (fun h => ?_))
    · exact st_return (pc := 104) hC dX5_read_104 h
    · refine st_aload_n (pc := 51) hC dX5_read_51 rfl (by decide) (by decide) ?_
      refine st_iconst (pc := 52) hC dX5_read_52 (by decide) ?_
      obtain ⟨v1, hq, h⟩ := h
      refine st_invV (As := [iV 0]) (v := [iV v1]) (S := []) (pc := 53) hC dX5_read_53 cl_5_46 rfl rfl (Nat.le_of_ble_eq_true rfl) cr_X5_isNext hq ?_
      refine st_if_ne (tg := 104) (pc := 56) hC dX5_read_56 (by decide) (ite_im h (fun h => ?_) (fun h => ?_))
      · refine st_aload_n (pc := 59) hC dX5_read_59 rfl (by decide) (by decide) ?_
        refine st_bipush (pc := 60) hC dX5_read_60 (by decide) ?_
        obtain ⟨v2, hq, h⟩ := h
        refine st_invV (As := [iV 6]) (v := [iV v2]) (S := []) (pc := 62) hC dX5_read_62 cl_5_46 rfl rfl (Nat.le_of_ble_eq_true rfl) cr_X5_isNext hq ?_
        refine st_if_eq (tg := 76) (pc := 65) hC dX5_read_65 (by decide) (ite_im h (fun h => ?_) (fun h => ?_))
        · refine st_aload_n (pc := 76) hC dX5_read_76 rfl (by decide) (by decide) ?_
          refine st_bipush (pc := 77) hC dX5_read_77 (by decide) ?_
          obtain ⟨v3, hq, h⟩ := h
          refine st_invV (As := [iV 8]) (v := [iV v3]) (S := []) (pc := 79) hC dX5_read_79 cl_5_46 rfl rfl (Nat.le_of_ble_eq_true rfl) cr_X5_isNext hq ?_
          refine st_if_eq (tg := 92) (pc := 82) hC dX5_read_82 (by decide) (ite_im h (fun h => ?_) (fun h => ?_))
          · refine st_aload_n (pc := 92) hC dX5_read_92 rfl (by decide) (by decide) ?_
            refine st_iconst (pc := 93) hC dX5_read_93 (by decide) ?_
            obtain ⟨v4, σ4, hq, h⟩ := h
            refine st_invV (As := [iV 2]) (v := [iV v4]) (S := []) (pc := 94) hC dX5_read_94 cl_5_56 rfl rfl (Nat.le_of_ble_eq_true rfl) cr_X5_stop hq ?_
            refine st_istore_n (L2 := [rV 14 1, rV 1000700 6, iV x2, iV v4, iV x4]) (pc := 97) hC dX5_read_97 (Nat.le_of_ble_eq_true rfl) rfl ?_
            refine st_iinc (L2 := [rV 14 1, rV 1000700 6, iV x2, iV v4, iV (w32 (x4 + 1))]) (pc := 98) hC dX5_read_98 rfl (Nat.le_of_ble_eq_true rfl) rfl ?_
            refine st_goto (tg := 39) (pc := 101) hC dX5_read_101 (by decide) ?_
            exact h
          · refine st_aload_n (pc := 85) hC dX5_read_85 rfl (by decide) (by decide) ?_
            obtain ⟨v5, σ5, hq, h⟩ := h
            refine st_invV (As := []) (v := [iV v5]) (S := []) (pc := 86) hC dX5_read_86 cl_5_53 rfl rfl (Nat.le_of_ble_eq_true rfl) cr_X5_readChange hq ?_
            refine st_goto (tg := 97) (pc := 89) hC dX5_read_89 (by decide) ?_
            refine st_istore_n (L2 := [rV 14 1, rV 1000700 6, iV x2, iV v5, iV x4]) (pc := 97) hC dX5_read_97 (Nat.le_of_ble_eq_true rfl) rfl ?_
            refine st_iinc (L2 := [rV 14 1, rV 1000700 6, iV x2, iV v5, iV (w32 (x4 + 1))]) (pc := 98) hC dX5_read_98 rfl (Nat.le_of_ble_eq_true rfl) rfl ?_
            refine st_goto (tg := 39) (pc := 101) hC dX5_read_101 (by decide) ?_
            exact h
        · refine st_aload_n (pc := 68) hC dX5_read_68 rfl (by decide) (by decide) ?_
          obtain ⟨v6, σ6, hq, h⟩ := h
          refine st_invV (As := []) (v := [iV v6]) (S := []) (pc := 69) hC dX5_read_69 cl_5_50 rfl rfl (Nat.le_of_ble_eq_true rfl) cr_X5_readPurse hq ?_
          refine st_istore_n (L2 := [rV 14 1, rV 1000700 6, iV x2, iV v6, iV x4]) (pc := 72) hC dX5_read_72 (Nat.le_of_ble_eq_true rfl) rfl ?_
          refine st_goto (tg := 98) (pc := 73) hC dX5_read_73 (by decide) ?_
          refine st_iinc (L2 := [rV 14 1, rV 1000700 6, iV x2, iV v6, iV (w32 (x4 + 1))]) (pc := 98) hC dX5_read_98 rfl (Nat.le_of_ble_eq_true rfl) rfl ?_
          refine st_goto (tg := 39) (pc := 101) hC dX5_read_101 (by decide) ?_
          exact h
      · exact st_return (pc := 104) hC dX5_read_104 h
  · exact st_return (pc := 104) hC dX5_read_104 h
theorem bX5_isNext_0 {C : Nat → List Vv → Sg → Rs → Sg → Prop} {X : Nat → List Vv → List Vv → Sg → Prop} {Xr : List Vv → Sg → Prop} {Xt : Nat → Sg → Prop} (hC : Clo C 5 cX5_isNext (some .boolean) X Xr Xt) {x1 : Int} {σ : Sg} (h : ∃ v1 : Int, C MX7_kindOf [rV 16 2, iV (σ 1 4)] σ (.inl [iV v1]) σ ∧ (if v1 = x1 then (Xr [iV 1] σ) else (Xr [iV 0] σ))) : X 0 [rV 14 1, iV x1] [] σ := by
  refine st_aload_n (pc := 0) hC dX5_isNext_0 rfl (by decide) (by decide) ?_
  refine st_getf (ci := 4) (f := 3) (v := rV 16 2) (pc := 1) hC dX5_isNext_1 fl_5_28 rfl rfl ?_
  refine st_aload_n (pc := 4) hC dX5_isNext_4 rfl (by decide) (by decide) ?_
  refine st_getf (ci := 4) (f := 4) (v := iV (σ 1 4)) (pc := 5) hC dX5_isNext_5 fl_5_32 rfl rfl ?_
  obtain ⟨v1, hq, h⟩ := h
  refine st_invV (As := [iV (σ 1 4)]) (v := [iV v1]) (S := []) (pc := 8) hC dX5_isNext_8 cl_5_59 rfl rfl (Nat.le_of_ble_eq_true rfl) cr_X7_kindOf hq ?_
  refine st_iload_n (pc := 11) hC dX5_isNext_11 rfl ?_
  refine st_icmp_ne (tg := 19) (pc := 12) hC dX5_isNext_12 (by decide) (ite_im h (fun h => ?_) (fun h => ?_))
  · refine st_iconst (pc := 15) hC dX5_isNext_15 (by decide) ?_
    refine st_goto (tg := 20) (pc := 16) hC dX5_isNext_16 (by decide) ?_
    exact st_ireturn (pc := 20) hC dX5_isNext_20 (Or.inr rfl) h
  · refine st_iconst (pc := 19) hC dX5_isNext_19 (by decide) ?_
    exact st_ireturn (pc := 20) hC dX5_isNext_20 (Or.inl rfl) h
theorem bX5_stop_0 {C : Nat → List Vv → Sg → Rs → Sg → Prop} {X : Nat → List Vv → List Vv → Sg → Prop} {Xr : List Vv → Sg → Prop} {Xt : Nat → Sg → Prop} (hC : Clo C 5 cX5_stop (some .boolean) X Xr Xt) {x1 : Int} {σ : Sg} (h : ∃ v1 : Int, C MX7_kindOf [rV 16 2, iV (σ 1 4)] σ (.inl [iV v1]) σ ∧ (if v1 = 1 then (∃ v2 : Int, C MX7_startOf [rV 16 2, iV ((upS σ 1 0 1) 1 4)] (upS σ 1 0 1) (.inl [iV v2]) (upS σ 1 0 1) ∧ (Xr [iV 0] (upS (upS σ 1 0 1) 1 1 v2))) else (∃ v3 : Int, C MX7_startOf [rV 16 2, iV ((upS σ 1 0 x1) 1 4)] (upS σ 1 0 x1) (.inl [iV v3]) (upS σ 1 0 x1) ∧ (Xr [iV 0] (upS (upS σ 1 0 x1) 1 1 v3))))) : X 0 [rV 14 1, iV x1] [] σ := by
  refine st_aload_n (pc := 0) hC dX5_stop_0 rfl (by decide) (by decide) ?_
  refine st_aload_n (pc := 1) hC dX5_stop_1 rfl (by decide) (by decide) ?_
  refine st_getf (ci := 4) (f := 3) (v := rV 16 2) (pc := 2) hC dX5_stop_2 fl_5_28 rfl rfl ?_
  refine st_aload_n (pc := 5) hC dX5_stop_5 rfl (by decide) (by decide) ?_
  refine st_getf (ci := 4) (f := 4) (v := iV (σ 1 4)) (pc := 6) hC dX5_stop_6 fl_5_32 rfl rfl ?_
  obtain ⟨v1, hq, h⟩ := h
  refine st_invV (As := [iV (σ 1 4)]) (v := [iV v1]) (S := [rV 14 1]) (pc := 9) hC dX5_stop_9 cl_5_59 rfl rfl (Nat.le_of_ble_eq_true rfl) cr_X7_kindOf hq ?_
  refine st_iconst (pc := 12) hC dX5_stop_12 (by decide) ?_
  refine st_icmp_ne (tg := 20) (pc := 13) hC dX5_stop_13 (by decide) (ite_im h (fun h => ?_) (fun h => ?_))
  · refine st_iconst (pc := 16) hC dX5_stop_16 (by decide) ?_
    refine st_goto (tg := 21) (pc := 17) hC dX5_stop_17 (by decide) ?_
    refine st_putfI (ci := 4) (f := 0) (pc := 21) hC dX5_stop_21 fl_5_9 rfl rfl ?_
    refine st_aload_n (pc := 24) hC dX5_stop_24 rfl (by decide) (by decide) ?_
    refine st_aload_n (pc := 25) hC dX5_stop_25 rfl (by decide) (by decide) ?_
    refine st_getf (ci := 4) (f := 3) (v := rV 16 2) (pc := 26) hC dX5_stop_26 fl_5_28 rfl rfl ?_
    refine st_aload_n (pc := 29) hC dX5_stop_29 rfl (by decide) (by decide) ?_
    refine st_getf (ci := 4) (f := 4) (v := iV ((upS σ 1 0 1) 1 4)) (pc := 30) hC dX5_stop_30 fl_5_32 rfl rfl ?_
    obtain ⟨v2, hq, h⟩ := h
    refine st_invV (As := [iV ((upS σ 1 0 1) 1 4)]) (v := [iV v2]) (S := [rV 14 1]) (pc := 33) hC dX5_stop_33 cl_5_63 rfl rfl (Nat.le_of_ble_eq_true rfl) cr_X7_startOf hq ?_
    refine st_putfI (ci := 4) (f := 1) (pc := 36) hC dX5_stop_36 fl_5_15 rfl rfl ?_
    refine st_iconst (pc := 39) hC dX5_stop_39 (by decide) ?_
    exact st_ireturn (pc := 40) hC dX5_stop_40 (Or.inl rfl) h
  · refine st_iload_n (pc := 20) hC dX5_stop_20 rfl ?_
    refine st_putfI (ci := 4) (f := 0) (pc := 21) hC dX5_stop_21 fl_5_9 rfl rfl ?_
    refine st_aload_n (pc := 24) hC dX5_stop_24 rfl (by decide) (by decide) ?_
    refine st_aload_n (pc := 25) hC dX5_stop_25 rfl (by decide) (by decide) ?_
    refine st_getf (ci := 4) (f := 3) (v := rV 16 2) (pc := 26) hC dX5_stop_26 fl_5_28 rfl rfl ?_
    refine st_aload_n (pc := 29) hC dX5_stop_29 rfl (by decide) (by decide) ?_
    refine st_getf (ci := 4) (f := 4) (v := iV ((upS σ 1 0 x1) 1 4)) (pc := 30) hC dX5_stop_30 fl_5_32 rfl rfl ?_
    obtain ⟨v3, hq, h⟩ := h
    refine st_invV (As := [iV ((upS σ 1 0 x1) 1 4)]) (v := [iV v3]) (S := [rV 14 1]) (pc := 33) hC dX5_stop_33 cl_5_63 rfl rfl (Nat.le_of_ble_eq_true rfl) cr_X7_startOf hq ?_
    refine st_putfI (ci := 4) (f := 1) (pc := 36) hC dX5_stop_36 fl_5_15 rfl rfl ?_
    refine st_iconst (pc := 39) hC dX5_stop_39 (by decide) ?_
    exact st_ireturn (pc := 40) hC dX5_stop_40 (Or.inl rfl) h
theorem bX5_readMint_0 {C : Nat → List Vv → Sg → Rs → Sg → Prop} {X : Nat → List Vv → List Vv → Sg → Prop} {Xr : List Vv → Sg → Prop} {Xt : Nat → Sg → Prop} (hC : Clo C 5 cX5_readMint (some .boolean) X Xr Xt) {σ : Sg} (h : ∃ v1 : Int, C MX5_isNext [rV 14 1, iV 5] σ (.inl [iV v1]) σ ∧ (if v1 = 0 then (∃ v2 : Int, ∃ σ2 : Sg, C MX5_stop [rV 14 1, iV 2] σ (.inl [iV v2]) σ2 ∧ ((v2 = 0 ∨ v2 = 1) ∧ Xr [iV v2] σ2)) else (∃ v3 : Int, C MX5_isNext [rV 14 1, iV 2] (upS σ 1 4 (w32 ((σ 1 4) + 1))) (.inl [iV v3]) (upS σ 1 4 (w32 ((σ 1 4) + 1))) ∧ (if v3 = 0 then (∃ v4 : Int, ∃ σ4 : Sg, C MX5_stop [rV 14 1, iV 2] (upS σ 1 4 (w32 ((σ 1 4) + 1))) (.inl [iV v4]) σ4 ∧ ((v4 = 0 ∨ v4 = 1) ∧ Xr [iV v4] σ4)) else (X 40 [rV 14 1, iV 0, uV] [] (upS σ 1 4 (w32 ((σ 1 4) + 1)))))))) : X 0 [rV 14 1, uV, uV] [] σ := by
  refine st_aload_n (pc := 0) hC dX5_readMint_0 rfl (by decide) (by decide) ?_
  refine st_iconst (pc := 1) hC dX5_readMint_1 (by decide) ?_
  obtain ⟨v1, hq, h⟩ := h
  refine st_invV (As := [iV 5]) (v := [iV v1]) (S := []) (pc := 2) hC dX5_readMint_2 cl_5_46 rfl rfl (Nat.le_of_ble_eq_true rfl) cr_X5_isNext hq ?_
  refine st_if_ne (tg := 14) (pc := 5) hC dX5_readMint_5 (by decide) (ite_im h (fun h => ?_) (fun h => ?_))
  · refine st_aload_n (pc := 8) hC dX5_readMint_8 rfl (by decide) (by decide) ?_
    refine st_iconst (pc := 9) hC dX5_readMint_9 (by decide) ?_
    obtain ⟨v2, σ2, hq, h⟩ := h
    refine st_invV (As := [iV 2]) (v := [iV v2]) (S := []) (pc := 10) hC dX5_readMint_10 cl_5_56 rfl rfl (Nat.le_of_ble_eq_true rfl) cr_X5_stop hq ?_
    exact st_ireturn (pc := 13) hC dX5_readMint_13 h.1 h.2
  · refine st_aload_n (pc := 14) hC dX5_readMint_14 rfl (by decide) (by decide) ?_
    refine st_dupR (pc := 15) hC dX5_readMint_15 (by decide) (by decide) ?_
    refine st_getf (ci := 4) (f := 4) (v := iV (σ 1 4)) (pc := 16) hC dX5_readMint_16 fl_5_32 rfl rfl ?_
    refine st_iconst (pc := 19) hC dX5_readMint_19 (by decide) ?_
    refine st_iadd (pc := 20) hC dX5_readMint_20 ?_
    refine st_putfI (ci := 4) (f := 4) (pc := 21) hC dX5_readMint_21 fl_5_32 rfl rfl ?_
    refine st_aload_n (pc := 24) hC dX5_readMint_24 rfl (by decide) (by decide) ?_
    refine st_iconst (pc := 25) hC dX5_readMint_25 (by decide) ?_
    obtain ⟨v3, hq, h⟩ := h
    refine st_invV (As := [iV 2]) (v := [iV v3]) (S := []) (pc := 26) hC dX5_readMint_26 cl_5_46 rfl rfl (Nat.le_of_ble_eq_true rfl) cr_X5_isNext hq ?_
    refine st_if_ne (tg := 38) (pc := 29) hC dX5_readMint_29 (by decide) (ite_im h (fun h => ?_) (fun h => ?_))
    · refine st_aload_n (pc := 32) hC dX5_readMint_32 rfl (by decide) (by decide) ?_
      refine st_iconst (pc := 33) hC dX5_readMint_33 (by decide) ?_
      obtain ⟨v4, σ4, hq, h⟩ := h
      refine st_invV (As := [iV 2]) (v := [iV v4]) (S := []) (pc := 34) hC dX5_readMint_34 cl_5_56 rfl rfl (Nat.le_of_ble_eq_true rfl) cr_X5_stop hq ?_
      exact st_ireturn (pc := 37) hC dX5_readMint_37 h.1 h.2
    · refine st_iconst (pc := 38) hC dX5_readMint_38 (by decide) ?_
      refine st_istore_n (L2 := [rV 14 1, iV 0, uV]) (pc := 39) hC dX5_readMint_39 (Nat.le_of_ble_eq_true rfl) rfl ?_
      exact h
theorem bX5_readMint_40 {C : Nat → List Vv → Sg → Rs → Sg → Prop} {X : Nat → List Vv → List Vv → Sg → Prop} {Xr : List Vv → Sg → Prop} {Xt : Nat → Sg → Prop} (hC : Clo C 5 cX5_readMint (some .boolean) X Xr Xt) {x1 : Int} {σ : Sg} (h : if x1 < 700 then (∃ v1 : Int, C MX5_isNext [rV 14 1, iV 2] σ (.inl [iV v1]) σ ∧ (if v1 = 0 then (∃ v2 : Int, ∃ σ2 : Sg, C MX5_endLine [rV 14 1] σ (.inl [iV v2]) σ2 ∧ ((v2 = 0 ∨ v2 = 1) ∧ Xr [iV v2] σ2)) else (∃ v3 : Int, C MX7_valueOf [rV 16 2, iV (σ 1 4)] σ (.inl [iV v3]) σ ∧ (∃ v4 : Int, C MX3_isSmallPrime [iV v3] σ (.inl [iV v4]) σ ∧ (if v4 = 0 then (∃ v5 : Int, ∃ σ5 : Sg, C MX5_stop [rV 14 1, iV 3] σ (.inl [iV v5]) σ5 ∧ ((v5 = 0 ∨ v5 = 1) ∧ Xr [iV v5] σ5)) else (∃ v6 : Int, C MX8_numberOf [rV 17 14, iV v3] σ (.inl [iV v6]) σ ∧ (if v6 = (-1) then (if (σ 14 1) = 8 then (∃ v7 : Int, ∃ σ7 : Sg, C MX5_stop [rV 14 1, iV 4] σ (.inl [iV v7]) σ7 ∧ ((v7 = 0 ∨ v7 = 1) ∧ Xr [iV v7] σ7)) else (∃ σ8 : Sg, C MX8_addCoin [rV 17 14, iV v3] σ (.inl []) σ8 ∧ (X 40 [rV 14 1, iV (w32 (x1 + 1)), uV] [] (upS σ8 1 4 (w32 ((σ8 1 4) + 1)))))) else (∃ v9 : Int, ∃ σ9 : Sg, C MX5_stop [rV 14 1, iV 3] σ (.inl [iV v9]) σ9 ∧ ((v9 = 0 ∨ v9 = 1) ∧ Xr [iV v9] σ9))))))))) else (∃ v10 : Int, ∃ σ10 : Sg, C MX5_endLine [rV 14 1] σ (.inl [iV v10]) σ10 ∧ ((v10 = 0 ∨ v10 = 1) ∧ Xr [iV v10] σ10))) : X 40 [rV 14 1, iV x1, uV] [] σ := by
  refine st_iload_n (pc := 40) hC dX5_readMint_40 rfl ?_
  refine st_sipush (pc := 41) hC dX5_readMint_41 (by decide) ?_
  refine st_icmp_ge (tg := 134) (pc := 44) hC dX5_readMint_44 (by decide) (ite_im h (fun h => ?_) (fun h => ?_))
  · refine st_aload_n (pc := 47) hC dX5_readMint_47 rfl (by decide) (by decide) ?_
    refine st_iconst (pc := 48) hC dX5_readMint_48 (by decide) ?_
    obtain ⟨v1, hq, h⟩ := h
    refine st_invV (As := [iV 2]) (v := [iV v1]) (S := []) (pc := 49) hC dX5_readMint_49 cl_5_46 rfl rfl (Nat.le_of_ble_eq_true rfl) cr_X5_isNext hq ?_
    refine st_if_eq (tg := 134) (pc := 52) hC dX5_readMint_52 (by decide) (ite_im h (fun h => ?_) (fun h => ?_))
    · refine st_aload_n (pc := 134) hC dX5_readMint_134 rfl (by decide) (by decide) ?_
      obtain ⟨v2, σ2, hq, h⟩ := h
      refine st_invV (As := []) (v := [iV v2]) (S := []) (pc := 135) hC dX5_readMint_135 cl_5_84 rfl rfl (Nat.le_of_ble_eq_true rfl) cr_X5_endLine hq ?_
      exact st_ireturn (pc := 138) hC dX5_readMint_138 h.1 h.2
    · refine st_aload_n (pc := 55) hC dX5_readMint_55 rfl (by decide) (by decide) ?_
      refine st_getf (ci := 4) (f := 3) (v := rV 16 2) (pc := 56) hC dX5_readMint_56 fl_5_28 rfl rfl ?_
      refine st_aload_n (pc := 59) hC dX5_readMint_59 rfl (by decide) (by decide) ?_
      refine st_getf (ci := 4) (f := 4) (v := iV (σ 1 4)) (pc := 60) hC dX5_readMint_60 fl_5_32 rfl rfl ?_
      obtain ⟨v3, hq, h⟩ := h
      refine st_invV (As := [iV (σ 1 4)]) (v := [iV v3]) (S := []) (pc := 63) hC dX5_readMint_63 cl_5_66 rfl rfl (Nat.le_of_ble_eq_true rfl) cr_X7_valueOf hq ?_
      refine st_istore_n (L2 := [rV 14 1, iV x1, iV v3]) (pc := 66) hC dX5_readMint_66 (Nat.le_of_ble_eq_true rfl) rfl ?_
      refine st_iload_n (pc := 67) hC dX5_readMint_67 rfl ?_
      obtain ⟨v4, hq, h⟩ := h
      refine st_invS (As := [iV v3]) (v := [iV v4]) (S := []) (pc := 68) hC dX5_readMint_68 cl_5_69 rfl rfl (Nat.le_of_ble_eq_true rfl) hq ?_
      refine st_if_eq (tg := 86) (pc := 71) hC dX5_readMint_71 (by decide) (ite_im h (fun h => ?_) (fun h => ?_))
      · refine st_aload_n (pc := 86) hC dX5_readMint_86 rfl (by decide) (by decide) ?_
        refine st_iconst (pc := 87) hC dX5_readMint_87 (by decide) ?_
        obtain ⟨v5, σ5, hq, h⟩ := h
        refine st_invV (As := [iV 3]) (v := [iV v5]) (S := []) (pc := 88) hC dX5_readMint_88 cl_5_56 rfl rfl (Nat.le_of_ble_eq_true rfl) cr_X5_stop hq ?_
        exact st_ireturn (pc := 91) hC dX5_readMint_91 h.1 h.2
      · refine st_aload_n (pc := 74) hC dX5_readMint_74 rfl (by decide) (by decide) ?_
        refine st_getf (ci := 4) (f := 2) (v := rV 17 14) (pc := 75) hC dX5_readMint_75 fl_5_21 rfl rfl ?_
        refine st_iload_n (pc := 78) hC dX5_readMint_78 rfl ?_
        obtain ⟨v6, hq, h⟩ := h
        refine st_invV (As := [iV v3]) (v := [iV v6]) (S := []) (pc := 79) hC dX5_readMint_79 cl_5_74 rfl rfl (Nat.le_of_ble_eq_true rfl) cr_X8_numberOf hq ?_
        refine st_iconst (pc := 82) hC dX5_readMint_82 (by decide) ?_
        refine st_icmp_eq (tg := 92) (pc := 83) hC dX5_readMint_83 (by decide) (ite_im h (fun h => ?_) (fun h => ?_))
        · refine st_aload_n (pc := 92) hC dX5_readMint_92 rfl (by decide) (by decide) ?_
          refine st_getf (ci := 4) (f := 2) (v := rV 17 14) (pc := 93) hC dX5_readMint_93 fl_5_21 rfl rfl ?_
          refine st_getf (ci := 7) (f := 1) (v := iV (σ 14 1)) (pc := 96) hC dX5_readMint_96 fl_5_77 rfl rfl ?_
          refine st_bipush (pc := 99) hC dX5_readMint_99 (by decide) ?_
          refine st_icmp_ne (tg := 110) (pc := 101) hC dX5_readMint_101 (by decide) (ite_im h (fun h => ?_) (fun h => ?_))
          · refine st_aload_n (pc := 104) hC dX5_readMint_104 rfl (by decide) (by decide) ?_
            refine st_iconst (pc := 105) hC dX5_readMint_105 (by decide) ?_
            obtain ⟨v7, σ7, hq, h⟩ := h
            refine st_invV (As := [iV 4]) (v := [iV v7]) (S := []) (pc := 106) hC dX5_readMint_106 cl_5_56 rfl rfl (Nat.le_of_ble_eq_true rfl) cr_X5_stop hq ?_
            exact st_ireturn (pc := 109) hC dX5_readMint_109 h.1 h.2
          · refine st_aload_n (pc := 110) hC dX5_readMint_110 rfl (by decide) (by decide) ?_
            refine st_getf (ci := 4) (f := 2) (v := rV 17 14) (pc := 111) hC dX5_readMint_111 fl_5_21 rfl rfl ?_
            refine st_iload_n (pc := 114) hC dX5_readMint_114 rfl ?_
            obtain ⟨σ8, hq, h⟩ := h
            refine st_invV (As := [iV v3]) (v := []) (S := []) (pc := 115) hC dX5_readMint_115 cl_5_80 rfl rfl (Nat.le_of_ble_eq_true rfl) cr_X8_addCoin hq ?_
            refine st_aload_n (pc := 118) hC dX5_readMint_118 rfl (by decide) (by decide) ?_
            refine st_dupR (pc := 119) hC dX5_readMint_119 (by decide) (by decide) ?_
            refine st_getf (ci := 4) (f := 4) (v := iV (σ8 1 4)) (pc := 120) hC dX5_readMint_120 fl_5_32 rfl rfl ?_
            refine st_iconst (pc := 123) hC dX5_readMint_123 (by decide) ?_
            refine st_iadd (pc := 124) hC dX5_readMint_124 ?_
            refine st_putfI (ci := 4) (f := 4) (pc := 125) hC dX5_readMint_125 fl_5_32 rfl rfl ?_
            refine st_iinc (L2 := [rV 14 1, iV (w32 (x1 + 1)), iV v3]) (pc := 128) hC dX5_readMint_128 rfl (Nat.le_of_ble_eq_true rfl) rfl ?_
            refine st_goto (tg := 40) (pc := 131) hC dX5_readMint_131 (by decide) ?_
            exact st_fg (L2 := [rV 14 1, iV (w32 (x1 + 1)), uV]) hC ⟨Or.inl rfl, Or.inl rfl, Or.inr rfl, trivial⟩ h
        · refine st_aload_n (pc := 86) hC dX5_readMint_86 rfl (by decide) (by decide) ?_
          refine st_iconst (pc := 87) hC dX5_readMint_87 (by decide) ?_
          obtain ⟨v9, σ9, hq, h⟩ := h
          refine st_invV (As := [iV 3]) (v := [iV v9]) (S := []) (pc := 88) hC dX5_readMint_88 cl_5_56 rfl rfl (Nat.le_of_ble_eq_true rfl) cr_X5_stop hq ?_
          exact st_ireturn (pc := 91) hC dX5_readMint_91 h.1 h.2
  · refine st_aload_n (pc := 134) hC dX5_readMint_134 rfl (by decide) (by decide) ?_
    obtain ⟨v10, σ10, hq, h⟩ := h
    refine st_invV (As := []) (v := [iV v10]) (S := []) (pc := 135) hC dX5_readMint_135 cl_5_84 rfl rfl (Nat.le_of_ble_eq_true rfl) cr_X5_endLine hq ?_
    exact st_ireturn (pc := 138) hC dX5_readMint_138 h.1 h.2
theorem bX5_endLine_0 {C : Nat → List Vv → Sg → Rs → Sg → Prop} {X : Nat → List Vv → List Vv → Sg → Prop} {Xr : List Vv → Sg → Prop} {Xt : Nat → Sg → Prop} (hC : Clo C 5 cX5_endLine (some .boolean) X Xr Xt) {σ : Sg} (h : ∃ v1 : Int, C MX5_isNext [rV 14 1, iV 3] σ (.inl [iV v1]) σ ∧ (if v1 = 0 then (∃ v2 : Int, ∃ σ2 : Sg, C MX5_stop [rV 14 1, iV 2] σ (.inl [iV v2]) σ2 ∧ ((v2 = 0 ∨ v2 = 1) ∧ Xr [iV v2] σ2)) else (Xr [iV 1] (upS (upS σ 14 0 (w32 ((σ 14 0) + 1))) 1 4 (w32 (((upS σ 14 0 (w32 ((σ 14 0) + 1))) 1 4) + 1)))))) : X 0 [rV 14 1] [] σ := by
  refine st_aload_n (pc := 0) hC dX5_endLine_0 rfl (by decide) (by decide) ?_
  refine st_iconst (pc := 1) hC dX5_endLine_1 (by decide) ?_
  obtain ⟨v1, hq, h⟩ := h
  refine st_invV (As := [iV 3]) (v := [iV v1]) (S := []) (pc := 2) hC dX5_endLine_2 cl_5_46 rfl rfl (Nat.le_of_ble_eq_true rfl) cr_X5_isNext hq ?_
  refine st_if_ne (tg := 14) (pc := 5) hC dX5_endLine_5 (by decide) (ite_im h (fun h => ?_) (fun h => ?_))
  · refine st_aload_n (pc := 8) hC dX5_endLine_8 rfl (by decide) (by decide) ?_
    refine st_iconst (pc := 9) hC dX5_endLine_9 (by decide) ?_
    obtain ⟨v2, σ2, hq, h⟩ := h
    refine st_invV (As := [iV 2]) (v := [iV v2]) (S := []) (pc := 10) hC dX5_endLine_10 cl_5_56 rfl rfl (Nat.le_of_ble_eq_true rfl) cr_X5_stop hq ?_
    exact st_ireturn (pc := 13) hC dX5_endLine_13 h.1 h.2
  · refine st_aload_n (pc := 14) hC dX5_endLine_14 rfl (by decide) (by decide) ?_
    refine st_getf (ci := 4) (f := 2) (v := rV 17 14) (pc := 15) hC dX5_endLine_15 fl_5_21 rfl rfl ?_
    refine st_dupR (pc := 18) hC dX5_endLine_18 (by decide) (by decide) ?_
    refine st_getf (ci := 7) (f := 0) (v := iV (σ 14 0)) (pc := 19) hC dX5_endLine_19 fl_5_87 rfl rfl ?_
    refine st_iconst (pc := 22) hC dX5_endLine_22 (by decide) ?_
    refine st_iadd (pc := 23) hC dX5_endLine_23 ?_
    refine st_putfI (ci := 7) (f := 0) (pc := 24) hC dX5_endLine_24 fl_5_87 rfl rfl ?_
    refine st_aload_n (pc := 27) hC dX5_endLine_27 rfl (by decide) (by decide) ?_
    refine st_dupR (pc := 28) hC dX5_endLine_28 (by decide) (by decide) ?_
    refine st_getf (ci := 4) (f := 4) (v := iV ((upS σ 14 0 (w32 ((σ 14 0) + 1))) 1 4)) (pc := 29) hC dX5_endLine_29 fl_5_32 rfl rfl ?_
    refine st_iconst (pc := 32) hC dX5_endLine_32 (by decide) ?_
    refine st_iadd (pc := 33) hC dX5_endLine_33 ?_
    refine st_putfI (ci := 4) (f := 4) (pc := 34) hC dX5_endLine_34 fl_5_32 rfl rfl ?_
    refine st_iconst (pc := 37) hC dX5_endLine_37 (by decide) ?_
    exact st_ireturn (pc := 38) hC dX5_endLine_38 (Or.inr rfl) h
theorem bX5_readPurse_0 {C : Nat → List Vv → Sg → Rs → Sg → Prop} {X : Nat → List Vv → List Vv → Sg → Prop} {Xr : List Vv → Sg → Prop} {Xt : Nat → Sg → Prop} (hC : Clo C 5 cX5_readPurse (some .boolean) X Xr Xt) {σ : Sg} (h : if (σ 14 2) = 5 then (∃ v1 : Int, ∃ σ1 : Sg, C MX5_stop [rV 14 1, iV 4] σ (.inl [iV v1]) σ1 ∧ ((v1 = 0 ∨ v1 = 1) ∧ Xr [iV v1] σ1)) else (X 29 [rV 14 1, iV 0] [] (upS σ 1 4 (w32 ((σ 1 4) + 1))))) : X 0 [rV 14 1, uV] [] σ := by
  refine st_aload_n (pc := 0) hC dX5_readPurse_0 rfl (by decide) (by decide) ?_
  refine st_getf (ci := 4) (f := 2) (v := rV 17 14) (pc := 1) hC dX5_readPurse_1 fl_5_21 rfl rfl ?_
  refine st_getf (ci := 7) (f := 2) (v := iV (σ 14 2)) (pc := 4) hC dX5_readPurse_4 fl_5_90 rfl rfl ?_
  refine st_iconst (pc := 7) hC dX5_readPurse_7 (by decide) ?_
  refine st_icmp_ne (tg := 17) (pc := 8) hC dX5_readPurse_8 (by decide) (ite_im h (fun h => ?_) (fun h => ?_))
  · refine st_aload_n (pc := 11) hC dX5_readPurse_11 rfl (by decide) (by decide) ?_
    refine st_iconst (pc := 12) hC dX5_readPurse_12 (by decide) ?_
    obtain ⟨v1, σ1, hq, h⟩ := h
    refine st_invV (As := [iV 4]) (v := [iV v1]) (S := []) (pc := 13) hC dX5_readPurse_13 cl_5_56 rfl rfl (Nat.le_of_ble_eq_true rfl) cr_X5_stop hq ?_
    exact st_ireturn (pc := 16) hC dX5_readPurse_16 h.1 h.2
  · refine st_aload_n (pc := 17) hC dX5_readPurse_17 rfl (by decide) (by decide) ?_
    refine st_dupR (pc := 18) hC dX5_readPurse_18 (by decide) (by decide) ?_
    refine st_getf (ci := 4) (f := 4) (v := iV (σ 1 4)) (pc := 19) hC dX5_readPurse_19 fl_5_32 rfl rfl ?_
    refine st_iconst (pc := 22) hC dX5_readPurse_22 (by decide) ?_
    refine st_iadd (pc := 23) hC dX5_readPurse_23 ?_
    refine st_putfI (ci := 4) (f := 4) (pc := 24) hC dX5_readPurse_24 fl_5_32 rfl rfl ?_
    refine st_iconst (pc := 27) hC dX5_readPurse_27 (by decide) ?_
    refine st_istore_n (L2 := [rV 14 1, iV 0]) (pc := 28) hC dX5_readPurse_28 (Nat.le_of_ble_eq_true rfl) rfl ?_
    exact h
theorem bX5_readPurse_29 {C : Nat → List Vv → Sg → Rs → Sg → Prop} {X : Nat → List Vv → List Vv → Sg → Prop} {Xr : List Vv → Sg → Prop} {Xt : Nat → Sg → Prop} (hC : Clo C 5 cX5_readPurse (some .boolean) X Xr Xt) {x1 : Int} {σ : Sg} (h : if x1 < 700 then (∃ v1 : Int, C MX5_isNext [rV 14 1, iV 2] σ (.inl [iV v1]) σ ∧ (if v1 = 0 then (∃ v2 : Int, ∃ σ2 : Sg, C MX5_endLine [rV 14 1] σ (.inl [iV v2]) σ2 ∧ (if v2 = 0 then (Xr [iV 0] σ2) else (Xr [iV 1] (upS σ2 14 2 (w32 ((σ2 14 2) + 1)))))) else (∃ v3 : Int, ∃ σ3 : Sg, C MX5_readPursed [rV 14 1] σ (.inl [iV v3]) σ3 ∧ (if v3 = 0 then (Xr [iV 0] σ3) else (X 29 [rV 14 1, iV (w32 (x1 + 1))] [] σ3))))) else (∃ v4 : Int, ∃ σ4 : Sg, C MX5_endLine [rV 14 1] σ (.inl [iV v4]) σ4 ∧ (if v4 = 0 then (Xr [iV 0] σ4) else (Xr [iV 1] (upS σ4 14 2 (w32 ((σ4 14 2) + 1))))))) : X 29 [rV 14 1, iV x1] [] σ := by
  refine st_iload_n (pc := 29) hC dX5_readPurse_29 rfl ?_
  refine st_sipush (pc := 30) hC dX5_readPurse_30 (by decide) ?_
  refine st_icmp_ge (tg := 59) (pc := 33) hC dX5_readPurse_33 (by decide) (ite_im h (fun h => ?_) (fun h => ?_))
  · refine st_aload_n (pc := 36) hC dX5_readPurse_36 rfl (by decide) (by decide) ?_
    refine st_iconst (pc := 37) hC dX5_readPurse_37 (by decide) ?_
    obtain ⟨v1, hq, h⟩ := h
    refine st_invV (As := [iV 2]) (v := [iV v1]) (S := []) (pc := 38) hC dX5_readPurse_38 cl_5_46 rfl rfl (Nat.le_of_ble_eq_true rfl) cr_X5_isNext hq ?_
    refine st_if_eq (tg := 59) (pc := 41) hC dX5_readPurse_41 (by decide) (ite_im h (fun h => ?_) (fun h => ?_))
    · refine st_aload_n (pc := 59) hC dX5_readPurse_59 rfl (by decide) (by decide) ?_
      obtain ⟨v2, σ2, hq, h⟩ := h
      refine st_invV (As := []) (v := [iV v2]) (S := []) (pc := 60) hC dX5_readPurse_60 cl_5_84 rfl rfl (Nat.le_of_ble_eq_true rfl) cr_X5_endLine hq ?_
      refine st_if_ne (tg := 68) (pc := 63) hC dX5_readPurse_63 (by decide) (ite_im h (fun h => ?_) (fun h => ?_))
      · refine st_iconst (pc := 66) hC dX5_readPurse_66 (by decide) ?_
        exact st_ireturn (pc := 67) hC dX5_readPurse_67 (Or.inl rfl) h
      · refine st_aload_n (pc := 68) hC dX5_readPurse_68 rfl (by decide) (by decide) ?_
        refine st_getf (ci := 4) (f := 2) (v := rV 17 14) (pc := 69) hC dX5_readPurse_69 fl_5_21 rfl rfl ?_
        refine st_dupR (pc := 72) hC dX5_readPurse_72 (by decide) (by decide) ?_
        refine st_getf (ci := 7) (f := 2) (v := iV (σ2 14 2)) (pc := 73) hC dX5_readPurse_73 fl_5_90 rfl rfl ?_
        refine st_iconst (pc := 76) hC dX5_readPurse_76 (by decide) ?_
        refine st_iadd (pc := 77) hC dX5_readPurse_77 ?_
        refine st_putfI (ci := 7) (f := 2) (pc := 78) hC dX5_readPurse_78 fl_5_90 rfl rfl ?_
        refine st_iconst (pc := 81) hC dX5_readPurse_81 (by decide) ?_
        exact st_ireturn (pc := 82) hC dX5_readPurse_82 (Or.inr rfl) h
    · refine st_aload_n (pc := 44) hC dX5_readPurse_44 rfl (by decide) (by decide) ?_
      obtain ⟨v3, σ3, hq, h⟩ := h
      refine st_invV (As := []) (v := [iV v3]) (S := []) (pc := 45) hC dX5_readPurse_45 cl_5_93 rfl rfl (Nat.le_of_ble_eq_true rfl) cr_X5_readPursed hq ?_
      refine st_if_ne (tg := 53) (pc := 48) hC dX5_readPurse_48 (by decide) (ite_im h (fun h => ?_) (fun h => ?_))
      · refine st_iconst (pc := 51) hC dX5_readPurse_51 (by decide) ?_
        exact st_ireturn (pc := 52) hC dX5_readPurse_52 (Or.inl rfl) h
      · refine st_iinc (L2 := [rV 14 1, iV (w32 (x1 + 1))]) (pc := 53) hC dX5_readPurse_53 rfl (Nat.le_of_ble_eq_true rfl) rfl ?_
        refine st_goto (tg := 29) (pc := 56) hC dX5_readPurse_56 (by decide) ?_
        exact h
  · refine st_aload_n (pc := 59) hC dX5_readPurse_59 rfl (by decide) (by decide) ?_
    obtain ⟨v4, σ4, hq, h⟩ := h
    refine st_invV (As := []) (v := [iV v4]) (S := []) (pc := 60) hC dX5_readPurse_60 cl_5_84 rfl rfl (Nat.le_of_ble_eq_true rfl) cr_X5_endLine hq ?_
    refine st_if_ne (tg := 68) (pc := 63) hC dX5_readPurse_63 (by decide) (ite_im h (fun h => ?_) (fun h => ?_))
    · refine st_iconst (pc := 66) hC dX5_readPurse_66 (by decide) ?_
      exact st_ireturn (pc := 67) hC dX5_readPurse_67 (Or.inl rfl) h
    · refine st_aload_n (pc := 68) hC dX5_readPurse_68 rfl (by decide) (by decide) ?_
      refine st_getf (ci := 4) (f := 2) (v := rV 17 14) (pc := 69) hC dX5_readPurse_69 fl_5_21 rfl rfl ?_
      refine st_dupR (pc := 72) hC dX5_readPurse_72 (by decide) (by decide) ?_
      refine st_getf (ci := 7) (f := 2) (v := iV (σ4 14 2)) (pc := 73) hC dX5_readPurse_73 fl_5_90 rfl rfl ?_
      refine st_iconst (pc := 76) hC dX5_readPurse_76 (by decide) ?_
      refine st_iadd (pc := 77) hC dX5_readPurse_77 ?_
      refine st_putfI (ci := 7) (f := 2) (pc := 78) hC dX5_readPurse_78 fl_5_90 rfl rfl ?_
      refine st_iconst (pc := 81) hC dX5_readPurse_81 (by decide) ?_
      exact st_ireturn (pc := 82) hC dX5_readPurse_82 (Or.inr rfl) h
theorem bX5_readPursed_0 {C : Nat → List Vv → Sg → Rs → Sg → Prop} {X : Nat → List Vv → List Vv → Sg → Prop} {Xr : List Vv → Sg → Prop} {Xt : Nat → Sg → Prop} (hC : Clo C 5 cX5_readPursed (some .boolean) X Xr Xt) {σ : Sg} (h : ∃ v1 : Int, C MX7_valueOf [rV 16 2, iV (σ 1 4)] σ (.inl [iV v1]) σ ∧ (∃ v2 : Int, C MX8_numberOf [rV 17 14, iV v1] σ (.inl [iV v2]) σ ∧ (if v2 = (-1) then (∃ v3 : Int, ∃ σ3 : Sg, C MX5_stop [rV 14 1, iV 3] σ (.inl [iV v3]) σ3 ∧ ((v3 = 0 ∨ v3 = 1) ∧ Xr [iV v3] σ3)) else (∃ v4 : Int, C MX8_many [rV 17 14, iV (σ 14 2)] σ (.inl [iV v4]) σ ∧ (if (9 : Int) < (w32 (v4 + 1)) then (∃ v5 : Int, ∃ σ5 : Sg, C MX5_stop [rV 14 1, iV 4] σ (.inl [iV v5]) σ5 ∧ ((v5 = 0 ∨ v5 = 1) ∧ Xr [iV v5] σ5)) else (∃ σ6 : Sg, C MX8_come [rV 17 14, iV (σ 14 2), iV v2, iV 1] σ (.inl []) σ6 ∧ (∃ v7 : Int, C MX5_isNext [rV 14 1, iV 7] (upS σ6 1 4 (w32 ((σ6 1 4) + 1))) (.inl [iV v7]) (upS σ6 1 4 (w32 ((σ6 1 4) + 1))) ∧ (if v7 = 0 then (Xr [iV 1] (upS σ6 1 4 (w32 ((σ6 1 4) + 1)))) else (∃ v8 : Int, ∃ σ8 : Sg, C MX5_readTimes [rV 14 1, iV v2] (upS σ6 1 4 (w32 ((σ6 1 4) + 1))) (.inl [iV v8]) σ8 ∧ (if v8 = 0 then (Xr [iV 0] σ8) else (Xr [iV 1] σ8))))))))))) : X 0 [rV 14 1, uV] [] σ := by
  refine st_aload_n (pc := 0) hC dX5_readPursed_0 rfl (by decide) (by decide) ?_
  refine st_getf (ci := 4) (f := 2) (v := rV 17 14) (pc := 1) hC dX5_readPursed_1 fl_5_21 rfl rfl ?_
  refine st_aload_n (pc := 4) hC dX5_readPursed_4 rfl (by decide) (by decide) ?_
  refine st_getf (ci := 4) (f := 3) (v := rV 16 2) (pc := 5) hC dX5_readPursed_5 fl_5_28 rfl rfl ?_
  refine st_aload_n (pc := 8) hC dX5_readPursed_8 rfl (by decide) (by decide) ?_
  refine st_getf (ci := 4) (f := 4) (v := iV (σ 1 4)) (pc := 9) hC dX5_readPursed_9 fl_5_32 rfl rfl ?_
  obtain ⟨v1, hq, h⟩ := h
  refine st_invV (As := [iV (σ 1 4)]) (v := [iV v1]) (S := [rV 17 14]) (pc := 12) hC dX5_readPursed_12 cl_5_66 rfl rfl (Nat.le_of_ble_eq_true rfl) cr_X7_valueOf hq ?_
  obtain ⟨v2, hq, h⟩ := h
  refine st_invV (As := [iV v1]) (v := [iV v2]) (S := []) (pc := 15) hC dX5_readPursed_15 cl_5_74 rfl rfl (Nat.le_of_ble_eq_true rfl) cr_X8_numberOf hq ?_
  refine st_istore_n (L2 := [rV 14 1, iV v2]) (pc := 18) hC dX5_readPursed_18 (Nat.le_of_ble_eq_true rfl) rfl ?_
  refine st_iload_n (pc := 19) hC dX5_readPursed_19 rfl ?_
  refine st_iconst (pc := 20) hC dX5_readPursed_20 (by decide) ?_
  refine st_icmp_ne (tg := 30) (pc := 21) hC dX5_readPursed_21 (by decide) (ite_im h (fun h => ?_) (fun h => ?_))
  · refine st_aload_n (pc := 24) hC dX5_readPursed_24 rfl (by decide) (by decide) ?_
    refine st_iconst (pc := 25) hC dX5_readPursed_25 (by decide) ?_
    obtain ⟨v3, σ3, hq, h⟩ := h
    refine st_invV (As := [iV 3]) (v := [iV v3]) (S := []) (pc := 26) hC dX5_readPursed_26 cl_5_56 rfl rfl (Nat.le_of_ble_eq_true rfl) cr_X5_stop hq ?_
    exact st_ireturn (pc := 29) hC dX5_readPursed_29 h.1 h.2
  · refine st_aload_n (pc := 30) hC dX5_readPursed_30 rfl (by decide) (by decide) ?_
    refine st_getf (ci := 4) (f := 2) (v := rV 17 14) (pc := 31) hC dX5_readPursed_31 fl_5_21 rfl rfl ?_
    refine st_aload_n (pc := 34) hC dX5_readPursed_34 rfl (by decide) (by decide) ?_
    refine st_getf (ci := 4) (f := 2) (v := rV 17 14) (pc := 35) hC dX5_readPursed_35 fl_5_21 rfl rfl ?_
    refine st_getf (ci := 7) (f := 2) (v := iV (σ 14 2)) (pc := 38) hC dX5_readPursed_38 fl_5_90 rfl rfl ?_
    obtain ⟨v4, hq, h⟩ := h
    refine st_invV (As := [iV (σ 14 2)]) (v := [iV v4]) (S := []) (pc := 41) hC dX5_readPursed_41 cl_5_96 rfl rfl (Nat.le_of_ble_eq_true rfl) cr_X8_many hq ?_
    refine st_iconst (pc := 44) hC dX5_readPursed_44 (by decide) ?_
    refine st_iadd (pc := 45) hC dX5_readPursed_45 ?_
    refine st_bipush (pc := 46) hC dX5_readPursed_46 (by decide) ?_
    refine st_icmp_le (tg := 57) (pc := 48) hC dX5_readPursed_48 (by decide) (ite_im h (fun h => ?_) (fun h => ?_))
    · refine st_aload_n (pc := 51) hC dX5_readPursed_51 rfl (by decide) (by decide) ?_
      refine st_iconst (pc := 52) hC dX5_readPursed_52 (by decide) ?_
      obtain ⟨v5, σ5, hq, h⟩ := h
      refine st_invV (As := [iV 4]) (v := [iV v5]) (S := []) (pc := 53) hC dX5_readPursed_53 cl_5_56 rfl rfl (Nat.le_of_ble_eq_true rfl) cr_X5_stop hq ?_
      exact st_ireturn (pc := 56) hC dX5_readPursed_56 h.1 h.2
    · refine st_aload_n (pc := 57) hC dX5_readPursed_57 rfl (by decide) (by decide) ?_
      refine st_getf (ci := 4) (f := 2) (v := rV 17 14) (pc := 58) hC dX5_readPursed_58 fl_5_21 rfl rfl ?_
      refine st_aload_n (pc := 61) hC dX5_readPursed_61 rfl (by decide) (by decide) ?_
      refine st_getf (ci := 4) (f := 2) (v := rV 17 14) (pc := 62) hC dX5_readPursed_62 fl_5_21 rfl rfl ?_
      refine st_getf (ci := 7) (f := 2) (v := iV (σ 14 2)) (pc := 65) hC dX5_readPursed_65 fl_5_90 rfl rfl ?_
      refine st_iload_n (pc := 68) hC dX5_readPursed_68 rfl ?_
      refine st_iconst (pc := 69) hC dX5_readPursed_69 (by decide) ?_
      obtain ⟨σ6, hq, h⟩ := h
      refine st_invV (As := [iV (σ 14 2), iV v2, iV 1]) (v := []) (S := []) (pc := 70) hC dX5_readPursed_70 cl_5_99 rfl rfl (Nat.le_of_ble_eq_true rfl) cr_X8_come hq ?_
      refine st_aload_n (pc := 73) hC dX5_readPursed_73 rfl (by decide) (by decide) ?_
      refine st_dupR (pc := 74) hC dX5_readPursed_74 (by decide) (by decide) ?_
      refine st_getf (ci := 4) (f := 4) (v := iV (σ6 1 4)) (pc := 75) hC dX5_readPursed_75 fl_5_32 rfl rfl ?_
      refine st_iconst (pc := 78) hC dX5_readPursed_78 (by decide) ?_
      refine st_iadd (pc := 79) hC dX5_readPursed_79 ?_
      refine st_putfI (ci := 4) (f := 4) (pc := 80) hC dX5_readPursed_80 fl_5_32 rfl rfl ?_
      refine st_aload_n (pc := 83) hC dX5_readPursed_83 rfl (by decide) (by decide) ?_
      refine st_bipush (pc := 84) hC dX5_readPursed_84 (by decide) ?_
      obtain ⟨v7, hq, h⟩ := h
      refine st_invV (As := [iV 7]) (v := [iV v7]) (S := []) (pc := 86) hC dX5_readPursed_86 cl_5_46 rfl rfl (Nat.le_of_ble_eq_true rfl) cr_X5_isNext hq ?_
      refine st_if_eq (tg := 100) (pc := 89) hC dX5_readPursed_89 (by decide) (ite_im h (fun h => ?_) (fun h => ?_))
      · refine st_iconst (pc := 100) hC dX5_readPursed_100 (by decide) ?_
        refine st_goto (tg := 105) (pc := 101) hC dX5_readPursed_101 (by decide) ?_
        exact st_ireturn (pc := 105) hC dX5_readPursed_105 (Or.inr rfl) h
      · refine st_aload_n (pc := 92) hC dX5_readPursed_92 rfl (by decide) (by decide) ?_
        refine st_iload_n (pc := 93) hC dX5_readPursed_93 rfl ?_
        obtain ⟨v8, σ8, hq, h⟩ := h
        refine st_invV (As := [iV v2]) (v := [iV v8]) (S := []) (pc := 94) hC dX5_readPursed_94 cl_5_103 rfl rfl (Nat.le_of_ble_eq_true rfl) cr_X5_readTimes hq ?_
        refine st_if_eq (tg := 104) (pc := 97) hC dX5_readPursed_97 (by decide) (ite_im h (fun h => ?_) (fun h => ?_))
        · refine st_iconst (pc := 104) hC dX5_readPursed_104 (by decide) ?_
          exact st_ireturn (pc := 105) hC dX5_readPursed_105 (Or.inl rfl) h
        · refine st_iconst (pc := 100) hC dX5_readPursed_100 (by decide) ?_
          refine st_goto (tg := 105) (pc := 101) hC dX5_readPursed_101 (by decide) ?_
          exact st_ireturn (pc := 105) hC dX5_readPursed_105 (Or.inr rfl) h
theorem bX5_readTimes_0 {C : Nat → List Vv → Sg → Rs → Sg → Prop} {X : Nat → List Vv → List Vv → Sg → Prop} {Xr : List Vv → Sg → Prop} {Xt : Nat → Sg → Prop} (hC : Clo C 5 cX5_readTimes (some .boolean) X Xr Xt) {x1 : Int} {σ : Sg} (h : ∃ v1 : Int, C MX5_isNext [rV 14 1, iV 2] (upS σ 1 4 (w32 ((σ 1 4) + 1))) (.inl [iV v1]) (upS σ 1 4 (w32 ((σ 1 4) + 1))) ∧ (if v1 = 0 then (∃ v2 : Int, ∃ σ2 : Sg, C MX5_stop [rV 14 1, iV 2] (upS σ 1 4 (w32 ((σ 1 4) + 1))) (.inl [iV v2]) σ2 ∧ ((v2 = 0 ∨ v2 = 1) ∧ Xr [iV v2] σ2)) else (∃ v3 : Int, C MX7_valueOf [rV 16 2, iV ((upS σ 1 4 (w32 ((σ 1 4) + 1))) 1 4)] (upS σ 1 4 (w32 ((σ 1 4) + 1))) (.inl [iV v3]) (upS σ 1 4 (w32 ((σ 1 4) + 1))) ∧ (if v3 < 1 then (∃ v4 : Int, ∃ σ4 : Sg, C MX5_stop [rV 14 1, iV 3] (upS σ 1 4 (w32 ((σ 1 4) + 1))) (.inl [iV v4]) σ4 ∧ ((v4 = 0 ∨ v4 = 1) ∧ Xr [iV v4] σ4)) else (if (9 : Int) < v3 then (∃ v5 : Int, ∃ σ5 : Sg, C MX5_stop [rV 14 1, iV 3] (upS σ 1 4 (w32 ((σ 1 4) + 1))) (.inl [iV v5]) σ5 ∧ ((v5 = 0 ∨ v5 = 1) ∧ Xr [iV v5] σ5)) else (∃ v6 : Int, C MX8_many [rV 17 14, iV ((upS σ 1 4 (w32 ((σ 1 4) + 1))) 14 2)] (upS σ 1 4 (w32 ((σ 1 4) + 1))) (.inl [iV v6]) (upS σ 1 4 (w32 ((σ 1 4) + 1))) ∧ (if (9 : Int) < (w32 ((w32 (v6 + v3)) - 1)) then (∃ v7 : Int, ∃ σ7 : Sg, C MX5_stop [rV 14 1, iV 4] (upS σ 1 4 (w32 ((σ 1 4) + 1))) (.inl [iV v7]) σ7 ∧ ((v7 = 0 ∨ v7 = 1) ∧ Xr [iV v7] σ7)) else (∃ σ8 : Sg, C MX8_come [rV 17 14, iV ((upS σ 1 4 (w32 ((σ 1 4) + 1))) 14 2), iV x1, iV (w32 (v3 - 1))] (upS σ 1 4 (w32 ((σ 1 4) + 1))) (.inl []) σ8 ∧ (Xr [iV 1] (upS σ8 1 4 (w32 ((σ8 1 4) + 1)))))))))))) : X 0 [rV 14 1, iV x1, uV] [] σ := by
  refine st_aload_n (pc := 0) hC dX5_readTimes_0 rfl (by decide) (by decide) ?_
  refine st_dupR (pc := 1) hC dX5_readTimes_1 (by decide) (by decide) ?_
  refine st_getf (ci := 4) (f := 4) (v := iV (σ 1 4)) (pc := 2) hC dX5_readTimes_2 fl_5_32 rfl rfl ?_
  refine st_iconst (pc := 5) hC dX5_readTimes_5 (by decide) ?_
  refine st_iadd (pc := 6) hC dX5_readTimes_6 ?_
  refine st_putfI (ci := 4) (f := 4) (pc := 7) hC dX5_readTimes_7 fl_5_32 rfl rfl ?_
  refine st_aload_n (pc := 10) hC dX5_readTimes_10 rfl (by decide) (by decide) ?_
  refine st_iconst (pc := 11) hC dX5_readTimes_11 (by decide) ?_
  obtain ⟨v1, hq, h⟩ := h
  refine st_invV (As := [iV 2]) (v := [iV v1]) (S := []) (pc := 12) hC dX5_readTimes_12 cl_5_46 rfl rfl (Nat.le_of_ble_eq_true rfl) cr_X5_isNext hq ?_
  refine st_if_ne (tg := 24) (pc := 15) hC dX5_readTimes_15 (by decide) (ite_im h (fun h => ?_) (fun h => ?_))
  · refine st_aload_n (pc := 18) hC dX5_readTimes_18 rfl (by decide) (by decide) ?_
    refine st_iconst (pc := 19) hC dX5_readTimes_19 (by decide) ?_
    obtain ⟨v2, σ2, hq, h⟩ := h
    refine st_invV (As := [iV 2]) (v := [iV v2]) (S := []) (pc := 20) hC dX5_readTimes_20 cl_5_56 rfl rfl (Nat.le_of_ble_eq_true rfl) cr_X5_stop hq ?_
    exact st_ireturn (pc := 23) hC dX5_readTimes_23 h.1 h.2
  · refine st_aload_n (pc := 24) hC dX5_readTimes_24 rfl (by decide) (by decide) ?_
    refine st_getf (ci := 4) (f := 3) (v := rV 16 2) (pc := 25) hC dX5_readTimes_25 fl_5_28 rfl rfl ?_
    refine st_aload_n (pc := 28) hC dX5_readTimes_28 rfl (by decide) (by decide) ?_
    refine st_getf (ci := 4) (f := 4) (v := iV ((upS σ 1 4 (w32 ((σ 1 4) + 1))) 1 4)) (pc := 29) hC dX5_readTimes_29 fl_5_32 rfl rfl ?_
    obtain ⟨v3, hq, h⟩ := h
    refine st_invV (As := [iV ((upS σ 1 4 (w32 ((σ 1 4) + 1))) 1 4)]) (v := [iV v3]) (S := []) (pc := 32) hC dX5_readTimes_32 cl_5_66 rfl rfl (Nat.le_of_ble_eq_true rfl) cr_X7_valueOf hq ?_
    refine st_istore_n (L2 := [rV 14 1, iV x1, iV v3]) (pc := 35) hC dX5_readTimes_35 (Nat.le_of_ble_eq_true rfl) rfl ?_
    refine st_iload_n (pc := 36) hC dX5_readTimes_36 rfl ?_
    refine st_iconst (pc := 37) hC dX5_readTimes_37 (by decide) ?_
    refine st_icmp_lt (tg := 47) (pc := 38) hC dX5_readTimes_38 (by decide) (ite_im h (fun h => ?_) (fun h => ?_))
    · refine st_aload_n (pc := 47) hC dX5_readTimes_47 rfl (by decide) (by decide) ?_
      refine st_iconst (pc := 48) hC dX5_readTimes_48 (by decide) ?_
      obtain ⟨v4, σ4, hq, h⟩ := h
      refine st_invV (As := [iV 3]) (v := [iV v4]) (S := []) (pc := 49) hC dX5_readTimes_49 cl_5_56 rfl rfl (Nat.le_of_ble_eq_true rfl) cr_X5_stop hq ?_
      exact st_ireturn (pc := 52) hC dX5_readTimes_52 h.1 h.2
    · refine st_iload_n (pc := 41) hC dX5_readTimes_41 rfl ?_
      refine st_bipush (pc := 42) hC dX5_readTimes_42 (by decide) ?_
      refine st_icmp_le (tg := 53) (pc := 44) hC dX5_readTimes_44 (by decide) (ite_im h (fun h => ?_) (fun h => ?_))
      · refine st_aload_n (pc := 47) hC dX5_readTimes_47 rfl (by decide) (by decide) ?_
        refine st_iconst (pc := 48) hC dX5_readTimes_48 (by decide) ?_
        obtain ⟨v5, σ5, hq, h⟩ := h
        refine st_invV (As := [iV 3]) (v := [iV v5]) (S := []) (pc := 49) hC dX5_readTimes_49 cl_5_56 rfl rfl (Nat.le_of_ble_eq_true rfl) cr_X5_stop hq ?_
        exact st_ireturn (pc := 52) hC dX5_readTimes_52 h.1 h.2
      · refine st_aload_n (pc := 53) hC dX5_readTimes_53 rfl (by decide) (by decide) ?_
        refine st_getf (ci := 4) (f := 2) (v := rV 17 14) (pc := 54) hC dX5_readTimes_54 fl_5_21 rfl rfl ?_
        refine st_aload_n (pc := 57) hC dX5_readTimes_57 rfl (by decide) (by decide) ?_
        refine st_getf (ci := 4) (f := 2) (v := rV 17 14) (pc := 58) hC dX5_readTimes_58 fl_5_21 rfl rfl ?_
        refine st_getf (ci := 7) (f := 2) (v := iV ((upS σ 1 4 (w32 ((σ 1 4) + 1))) 14 2)) (pc := 61) hC dX5_readTimes_61 fl_5_90 rfl rfl ?_
        obtain ⟨v6, hq, h⟩ := h
        refine st_invV (As := [iV ((upS σ 1 4 (w32 ((σ 1 4) + 1))) 14 2)]) (v := [iV v6]) (S := []) (pc := 64) hC dX5_readTimes_64 cl_5_96 rfl rfl (Nat.le_of_ble_eq_true rfl) cr_X8_many hq ?_
        refine st_iload_n (pc := 67) hC dX5_readTimes_67 rfl ?_
        refine st_iadd (pc := 68) hC dX5_readTimes_68 ?_
        refine st_iconst (pc := 69) hC dX5_readTimes_69 (by decide) ?_
        refine st_isub (pc := 70) hC dX5_readTimes_70 ?_
        refine st_bipush (pc := 71) hC dX5_readTimes_71 (by decide) ?_
        refine st_icmp_le (tg := 82) (pc := 73) hC dX5_readTimes_73 (by decide) (ite_im h (fun h => ?_) (fun h => ?_))
        · refine st_aload_n (pc := 76) hC dX5_readTimes_76 rfl (by decide) (by decide) ?_
          refine st_iconst (pc := 77) hC dX5_readTimes_77 (by decide) ?_
          obtain ⟨v7, σ7, hq, h⟩ := h
          refine st_invV (As := [iV 4]) (v := [iV v7]) (S := []) (pc := 78) hC dX5_readTimes_78 cl_5_56 rfl rfl (Nat.le_of_ble_eq_true rfl) cr_X5_stop hq ?_
          exact st_ireturn (pc := 81) hC dX5_readTimes_81 h.1 h.2
        · refine st_aload_n (pc := 82) hC dX5_readTimes_82 rfl (by decide) (by decide) ?_
          refine st_getf (ci := 4) (f := 2) (v := rV 17 14) (pc := 83) hC dX5_readTimes_83 fl_5_21 rfl rfl ?_
          refine st_aload_n (pc := 86) hC dX5_readTimes_86 rfl (by decide) (by decide) ?_
          refine st_getf (ci := 4) (f := 2) (v := rV 17 14) (pc := 87) hC dX5_readTimes_87 fl_5_21 rfl rfl ?_
          refine st_getf (ci := 7) (f := 2) (v := iV ((upS σ 1 4 (w32 ((σ 1 4) + 1))) 14 2)) (pc := 90) hC dX5_readTimes_90 fl_5_90 rfl rfl ?_
          refine st_iload_n (pc := 93) hC dX5_readTimes_93 rfl ?_
          refine st_iload_n (pc := 94) hC dX5_readTimes_94 rfl ?_
          refine st_iconst (pc := 95) hC dX5_readTimes_95 (by decide) ?_
          refine st_isub (pc := 96) hC dX5_readTimes_96 ?_
          obtain ⟨σ8, hq, h⟩ := h
          refine st_invV (As := [iV ((upS σ 1 4 (w32 ((σ 1 4) + 1))) 14 2), iV x1, iV (w32 (v3 - 1))]) (v := []) (S := []) (pc := 97) hC dX5_readTimes_97 cl_5_99 rfl rfl (Nat.le_of_ble_eq_true rfl) cr_X8_come hq ?_
          refine st_aload_n (pc := 100) hC dX5_readTimes_100 rfl (by decide) (by decide) ?_
          refine st_dupR (pc := 101) hC dX5_readTimes_101 (by decide) (by decide) ?_
          refine st_getf (ci := 4) (f := 4) (v := iV (σ8 1 4)) (pc := 102) hC dX5_readTimes_102 fl_5_32 rfl rfl ?_
          refine st_iconst (pc := 105) hC dX5_readTimes_105 (by decide) ?_
          refine st_iadd (pc := 106) hC dX5_readTimes_106 ?_
          refine st_putfI (ci := 4) (f := 4) (pc := 107) hC dX5_readTimes_107 fl_5_32 rfl rfl ?_
          refine st_iconst (pc := 110) hC dX5_readTimes_110 (by decide) ?_
          exact st_ireturn (pc := 111) hC dX5_readTimes_111 (Or.inr rfl) h
theorem bX5_readChange_0 {C : Nat → List Vv → Sg → Rs → Sg → Prop} {X : Nat → List Vv → List Vv → Sg → Prop} {Xr : List Vv → Sg → Prop} {Xt : Nat → Sg → Prop} (hC : Clo C 5 cX5_readChange (some .boolean) X Xr Xt) {σ : Sg} (h : if (σ 14 3) = 6 then (∃ v1 : Int, ∃ σ1 : Sg, C MX5_stop [rV 14 1, iV 4] σ (.inl [iV v1]) σ1 ∧ ((v1 = 0 ∨ v1 = 1) ∧ Xr [iV v1] σ1)) else (∃ v2 : Int, ∃ σ2 : Sg, C MX5_readSide [rV 14 1, iV 0] (upS σ 1 4 (w32 ((σ 1 4) + 1))) (.inl [iV v2]) σ2 ∧ (if v2 = 0 then (Xr [iV 0] σ2) else (∃ v3 : Int, C MX5_isNext [rV 14 1, iV 9] σ2 (.inl [iV v3]) σ2 ∧ (if v3 = 0 then (∃ v4 : Int, ∃ σ4 : Sg, C MX5_stop [rV 14 1, iV 2] σ2 (.inl [iV v4]) σ4 ∧ ((v4 = 0 ∨ v4 = 1) ∧ Xr [iV v4] σ4)) else (∃ v5 : Int, ∃ σ5 : Sg, C MX5_readSide [rV 14 1, iV 1] (upS σ2 1 4 (w32 ((σ2 1 4) + 1))) (.inl [iV v5]) σ5 ∧ (if v5 = 0 then (Xr [iV 0] σ5) else (∃ v6 : Int, ∃ σ6 : Sg, C MX5_endLine [rV 14 1] σ5 (.inl [iV v6]) σ6 ∧ (if v6 = 0 then (Xr [iV 0] σ6) else (Xr [iV 1] (upS σ6 14 3 (w32 ((σ6 14 3) + 1))))))))))))) : X 0 [rV 14 1] [] σ := by
  refine st_aload_n (pc := 0) hC dX5_readChange_0 rfl (by decide) (by decide) ?_
  refine st_getf (ci := 4) (f := 2) (v := rV 17 14) (pc := 1) hC dX5_readChange_1 fl_5_21 rfl rfl ?_
  refine st_getf (ci := 7) (f := 3) (v := iV (σ 14 3)) (pc := 4) hC dX5_readChange_4 fl_5_106 rfl rfl ?_
  refine st_bipush (pc := 7) hC dX5_readChange_7 (by decide) ?_
  refine st_icmp_ne (tg := 18) (pc := 9) hC dX5_readChange_9 (by decide) (ite_im h (fun h => ?_) (fun h => ?_))
  · refine st_aload_n (pc := 12) hC dX5_readChange_12 rfl (by decide) (by decide) ?_
    refine st_iconst (pc := 13) hC dX5_readChange_13 (by decide) ?_
    obtain ⟨v1, σ1, hq, h⟩ := h
    refine st_invV (As := [iV 4]) (v := [iV v1]) (S := []) (pc := 14) hC dX5_readChange_14 cl_5_56 rfl rfl (Nat.le_of_ble_eq_true rfl) cr_X5_stop hq ?_
    exact st_ireturn (pc := 17) hC dX5_readChange_17 h.1 h.2
  · refine st_aload_n (pc := 18) hC dX5_readChange_18 rfl (by decide) (by decide) ?_
    refine st_dupR (pc := 19) hC dX5_readChange_19 (by decide) (by decide) ?_
    refine st_getf (ci := 4) (f := 4) (v := iV (σ 1 4)) (pc := 20) hC dX5_readChange_20 fl_5_32 rfl rfl ?_
    refine st_iconst (pc := 23) hC dX5_readChange_23 (by decide) ?_
    refine st_iadd (pc := 24) hC dX5_readChange_24 ?_
    refine st_putfI (ci := 4) (f := 4) (pc := 25) hC dX5_readChange_25 fl_5_32 rfl rfl ?_
    refine st_aload_n (pc := 28) hC dX5_readChange_28 rfl (by decide) (by decide) ?_
    refine st_iconst (pc := 29) hC dX5_readChange_29 (by decide) ?_
    obtain ⟨v2, σ2, hq, h⟩ := h
    refine st_invV (As := [iV 0]) (v := [iV v2]) (S := []) (pc := 30) hC dX5_readChange_30 cl_5_109 rfl rfl (Nat.le_of_ble_eq_true rfl) cr_X5_readSide hq ?_
    refine st_if_ne (tg := 38) (pc := 33) hC dX5_readChange_33 (by decide) (ite_im h (fun h => ?_) (fun h => ?_))
    · refine st_iconst (pc := 36) hC dX5_readChange_36 (by decide) ?_
      exact st_ireturn (pc := 37) hC dX5_readChange_37 (Or.inl rfl) h
    · refine st_aload_n (pc := 38) hC dX5_readChange_38 rfl (by decide) (by decide) ?_
      refine st_bipush (pc := 39) hC dX5_readChange_39 (by decide) ?_
      obtain ⟨v3, hq, h⟩ := h
      refine st_invV (As := [iV 9]) (v := [iV v3]) (S := []) (pc := 41) hC dX5_readChange_41 cl_5_46 rfl rfl (Nat.le_of_ble_eq_true rfl) cr_X5_isNext hq ?_
      refine st_if_ne (tg := 53) (pc := 44) hC dX5_readChange_44 (by decide) (ite_im h (fun h => ?_) (fun h => ?_))
      · refine st_aload_n (pc := 47) hC dX5_readChange_47 rfl (by decide) (by decide) ?_
        refine st_iconst (pc := 48) hC dX5_readChange_48 (by decide) ?_
        obtain ⟨v4, σ4, hq, h⟩ := h
        refine st_invV (As := [iV 2]) (v := [iV v4]) (S := []) (pc := 49) hC dX5_readChange_49 cl_5_56 rfl rfl (Nat.le_of_ble_eq_true rfl) cr_X5_stop hq ?_
        exact st_ireturn (pc := 52) hC dX5_readChange_52 h.1 h.2
      · refine st_aload_n (pc := 53) hC dX5_readChange_53 rfl (by decide) (by decide) ?_
        refine st_dupR (pc := 54) hC dX5_readChange_54 (by decide) (by decide) ?_
        refine st_getf (ci := 4) (f := 4) (v := iV (σ2 1 4)) (pc := 55) hC dX5_readChange_55 fl_5_32 rfl rfl ?_
        refine st_iconst (pc := 58) hC dX5_readChange_58 (by decide) ?_
        refine st_iadd (pc := 59) hC dX5_readChange_59 ?_
        refine st_putfI (ci := 4) (f := 4) (pc := 60) hC dX5_readChange_60 fl_5_32 rfl rfl ?_
        refine st_aload_n (pc := 63) hC dX5_readChange_63 rfl (by decide) (by decide) ?_
        refine st_iconst (pc := 64) hC dX5_readChange_64 (by decide) ?_
        obtain ⟨v5, σ5, hq, h⟩ := h
        refine st_invV (As := [iV 1]) (v := [iV v5]) (S := []) (pc := 65) hC dX5_readChange_65 cl_5_109 rfl rfl (Nat.le_of_ble_eq_true rfl) cr_X5_readSide hq ?_
        refine st_if_eq (tg := 78) (pc := 68) hC dX5_readChange_68 (by decide) (ite_im h (fun h => ?_) (fun h => ?_))
        · refine st_iconst (pc := 78) hC dX5_readChange_78 (by decide) ?_
          exact st_ireturn (pc := 79) hC dX5_readChange_79 (Or.inl rfl) h
        · refine st_aload_n (pc := 71) hC dX5_readChange_71 rfl (by decide) (by decide) ?_
          obtain ⟨v6, σ6, hq, h⟩ := h
          refine st_invV (As := []) (v := [iV v6]) (S := []) (pc := 72) hC dX5_readChange_72 cl_5_84 rfl rfl (Nat.le_of_ble_eq_true rfl) cr_X5_endLine hq ?_
          refine st_if_ne (tg := 80) (pc := 75) hC dX5_readChange_75 (by decide) (ite_im h (fun h => ?_) (fun h => ?_))
          · refine st_iconst (pc := 78) hC dX5_readChange_78 (by decide) ?_
            exact st_ireturn (pc := 79) hC dX5_readChange_79 (Or.inl rfl) h
          · refine st_aload_n (pc := 80) hC dX5_readChange_80 rfl (by decide) (by decide) ?_
            refine st_getf (ci := 4) (f := 2) (v := rV 17 14) (pc := 81) hC dX5_readChange_81 fl_5_21 rfl rfl ?_
            refine st_dupR (pc := 84) hC dX5_readChange_84 (by decide) (by decide) ?_
            refine st_getf (ci := 7) (f := 3) (v := iV (σ6 14 3)) (pc := 85) hC dX5_readChange_85 fl_5_106 rfl rfl ?_
            refine st_iconst (pc := 88) hC dX5_readChange_88 (by decide) ?_
            refine st_iadd (pc := 89) hC dX5_readChange_89 ?_
            refine st_putfI (ci := 7) (f := 3) (pc := 90) hC dX5_readChange_90 fl_5_106 rfl rfl ?_
            refine st_iconst (pc := 93) hC dX5_readChange_93 (by decide) ?_
            exact st_ireturn (pc := 94) hC dX5_readChange_94 (Or.inr rfl) h
theorem bX5_readSide_0 {C : Nat → List Vv → Sg → Rs → Sg → Prop} {X : Nat → List Vv → List Vv → Sg → Prop} {Xr : List Vv → Sg → Prop} {Xt : Nat → Sg → Prop} (hC : Clo C 5 cX5_readSide (some .boolean) X Xr Xt) {x1 : Int} {σ : Sg} (h : ∃ v1 : Int, C MX5_isNext [rV 14 1, iV 2] σ (.inl [iV v1]) σ ∧ (if v1 = 0 then (∃ v2 : Int, ∃ σ2 : Sg, C MX5_stop [rV 14 1, iV 2] σ (.inl [iV v2]) σ2 ∧ ((v2 = 0 ∨ v2 = 1) ∧ Xr [iV v2] σ2)) else (X 16 [rV 14 1, iV x1, iV 0, uV] [] σ))) : X 0 [rV 14 1, iV x1, uV, uV] [] σ := by
  refine st_aload_n (pc := 0) hC dX5_readSide_0 rfl (by decide) (by decide) ?_
  refine st_iconst (pc := 1) hC dX5_readSide_1 (by decide) ?_
  obtain ⟨v1, hq, h⟩ := h
  refine st_invV (As := [iV 2]) (v := [iV v1]) (S := []) (pc := 2) hC dX5_readSide_2 cl_5_46 rfl rfl (Nat.le_of_ble_eq_true rfl) cr_X5_isNext hq ?_
  refine st_if_ne (tg := 14) (pc := 5) hC dX5_readSide_5 (by decide) (ite_im h (fun h => ?_) (fun h => ?_))
  · refine st_aload_n (pc := 8) hC dX5_readSide_8 rfl (by decide) (by decide) ?_
    refine st_iconst (pc := 9) hC dX5_readSide_9 (by decide) ?_
    obtain ⟨v2, σ2, hq, h⟩ := h
    refine st_invV (As := [iV 2]) (v := [iV v2]) (S := []) (pc := 10) hC dX5_readSide_10 cl_5_56 rfl rfl (Nat.le_of_ble_eq_true rfl) cr_X5_stop hq ?_
    exact st_ireturn (pc := 13) hC dX5_readSide_13 h.1 h.2
  · refine st_iconst (pc := 14) hC dX5_readSide_14 (by decide) ?_
    refine st_istore_n (L2 := [rV 14 1, iV x1, iV 0, uV]) (pc := 15) hC dX5_readSide_15 (Nat.le_of_ble_eq_true rfl) rfl ?_
    exact h
theorem bX5_readSide_16 {C : Nat → List Vv → Sg → Rs → Sg → Prop} {X : Nat → List Vv → List Vv → Sg → Prop} {Xr : List Vv → Sg → Prop} {Xt : Nat → Sg → Prop} (hC : Clo C 5 cX5_readSide (some .boolean) X Xr Xt) {x1 x2 : Int} {σ : Sg} (h : if x2 < 700 then (∃ v1 : Int, C MX5_isNext [rV 14 1, iV 2] σ (.inl [iV v1]) σ ∧ (if v1 = 0 then (Xr [iV 1] σ) else (∃ v2 : Int, C MX7_valueOf [rV 16 2, iV (σ 1 4)] σ (.inl [iV v2]) σ ∧ (∃ v3 : Int, C MX8_numberOf [rV 17 14, iV v2] σ (.inl [iV v3]) σ ∧ (if v3 = (-1) then (∃ v4 : Int, ∃ σ4 : Sg, C MX5_stop [rV 14 1, iV 3] σ (.inl [iV v4]) σ4 ∧ ((v4 = 0 ∨ v4 = 1) ∧ Xr [iV v4] σ4)) else (if x2 = 3 then (∃ v5 : Int, ∃ σ5 : Sg, C MX5_stop [rV 14 1, iV 4] σ (.inl [iV v5]) σ5 ∧ ((v5 = 0 ∨ v5 = 1) ∧ Xr [iV v5] σ5)) else (∃ σ6 : Sg, C MX8_addToSide [rV 17 14, iV (σ 14 3), iV x1, iV v3] σ (.inl []) σ6 ∧ (X 16 [rV 14 1, iV x1, iV (w32 (x2 + 1)), uV] [] (upS σ6 1 4 (w32 ((σ6 1 4) + 1))))))))))) else (Xr [iV 1] σ)) : X 16 [rV 14 1, iV x1, iV x2, uV] [] σ := by
  refine st_iload_n (pc := 16) hC dX5_readSide_16 rfl ?_
  refine st_sipush (pc := 17) hC dX5_readSide_17 (by decide) ?_
  refine st_icmp_ge (tg := 104) (pc := 20) hC dX5_readSide_20 (by decide) (ite_im h (fun h => ?_) (fun h => ?_))
  · refine st_aload_n (pc := 23) hC dX5_readSide_23 rfl (by decide) (by decide) ?_
    refine st_iconst (pc := 24) hC dX5_readSide_24 (by decide) ?_
    obtain ⟨v1, hq, h⟩ := h
    refine st_invV (As := [iV 2]) (v := [iV v1]) (S := []) (pc := 25) hC dX5_readSide_25 cl_5_46 rfl rfl (Nat.le_of_ble_eq_true rfl) cr_X5_isNext hq ?_
    refine st_if_eq (tg := 104) (pc := 28) hC dX5_readSide_28 (by decide) (ite_im h (fun h => ?_) (fun h => ?_))
    · refine st_iconst (pc := 104) hC dX5_readSide_104 (by decide) ?_
      exact st_ireturn (pc := 105) hC dX5_readSide_105 (Or.inr rfl) h
    · refine st_aload_n (pc := 31) hC dX5_readSide_31 rfl (by decide) (by decide) ?_
      refine st_getf (ci := 4) (f := 2) (v := rV 17 14) (pc := 32) hC dX5_readSide_32 fl_5_21 rfl rfl ?_
      refine st_aload_n (pc := 35) hC dX5_readSide_35 rfl (by decide) (by decide) ?_
      refine st_getf (ci := 4) (f := 3) (v := rV 16 2) (pc := 36) hC dX5_readSide_36 fl_5_28 rfl rfl ?_
      refine st_aload_n (pc := 39) hC dX5_readSide_39 rfl (by decide) (by decide) ?_
      refine st_getf (ci := 4) (f := 4) (v := iV (σ 1 4)) (pc := 40) hC dX5_readSide_40 fl_5_32 rfl rfl ?_
      obtain ⟨v2, hq, h⟩ := h
      refine st_invV (As := [iV (σ 1 4)]) (v := [iV v2]) (S := [rV 17 14]) (pc := 43) hC dX5_readSide_43 cl_5_66 rfl rfl (Nat.le_of_ble_eq_true rfl) cr_X7_valueOf hq ?_
      obtain ⟨v3, hq, h⟩ := h
      refine st_invV (As := [iV v2]) (v := [iV v3]) (S := []) (pc := 46) hC dX5_readSide_46 cl_5_74 rfl rfl (Nat.le_of_ble_eq_true rfl) cr_X8_numberOf hq ?_
      refine st_istore_n (L2 := [rV 14 1, iV x1, iV x2, iV v3]) (pc := 49) hC dX5_readSide_49 (Nat.le_of_ble_eq_true rfl) rfl ?_
      refine st_iload_n (pc := 50) hC dX5_readSide_50 rfl ?_
      refine st_iconst (pc := 51) hC dX5_readSide_51 (by decide) ?_
      refine st_icmp_ne (tg := 61) (pc := 52) hC dX5_readSide_52 (by decide) (ite_im h (fun h => ?_) (fun h => ?_))
      · refine st_aload_n (pc := 55) hC dX5_readSide_55 rfl (by decide) (by decide) ?_
        refine st_iconst (pc := 56) hC dX5_readSide_56 (by decide) ?_
        obtain ⟨v4, σ4, hq, h⟩ := h
        refine st_invV (As := [iV 3]) (v := [iV v4]) (S := []) (pc := 57) hC dX5_readSide_57 cl_5_56 rfl rfl (Nat.le_of_ble_eq_true rfl) cr_X5_stop hq ?_
        exact st_ireturn (pc := 60) hC dX5_readSide_60 h.1 h.2
      · refine st_iload_n (pc := 61) hC dX5_readSide_61 rfl ?_
        refine st_iconst (pc := 62) hC dX5_readSide_62 (by decide) ?_
        refine st_icmp_ne (tg := 72) (pc := 63) hC dX5_readSide_63 (by decide) (ite_im h (fun h => ?_) (fun h => ?_))
        · refine st_aload_n (pc := 66) hC dX5_readSide_66 rfl (by decide) (by decide) ?_
          refine st_iconst (pc := 67) hC dX5_readSide_67 (by decide) ?_
          obtain ⟨v5, σ5, hq, h⟩ := h
          refine st_invV (As := [iV 4]) (v := [iV v5]) (S := []) (pc := 68) hC dX5_readSide_68 cl_5_56 rfl rfl (Nat.le_of_ble_eq_true rfl) cr_X5_stop hq ?_
          exact st_ireturn (pc := 71) hC dX5_readSide_71 h.1 h.2
        · refine st_aload_n (pc := 72) hC dX5_readSide_72 rfl (by decide) (by decide) ?_
          refine st_getf (ci := 4) (f := 2) (v := rV 17 14) (pc := 73) hC dX5_readSide_73 fl_5_21 rfl rfl ?_
          refine st_aload_n (pc := 76) hC dX5_readSide_76 rfl (by decide) (by decide) ?_
          refine st_getf (ci := 4) (f := 2) (v := rV 17 14) (pc := 77) hC dX5_readSide_77 fl_5_21 rfl rfl ?_
          refine st_getf (ci := 7) (f := 3) (v := iV (σ 14 3)) (pc := 80) hC dX5_readSide_80 fl_5_106 rfl rfl ?_
          refine st_iload_n (pc := 83) hC dX5_readSide_83 rfl ?_
          refine st_iload_n (pc := 84) hC dX5_readSide_84 rfl ?_
          obtain ⟨σ6, hq, h⟩ := h
          refine st_invV (As := [iV (σ 14 3), iV x1, iV v3]) (v := []) (S := []) (pc := 85) hC dX5_readSide_85 cl_5_112 rfl rfl (Nat.le_of_ble_eq_true rfl) cr_X8_addToSide hq ?_
          refine st_aload_n (pc := 88) hC dX5_readSide_88 rfl (by decide) (by decide) ?_
          refine st_dupR (pc := 89) hC dX5_readSide_89 (by decide) (by decide) ?_
          refine st_getf (ci := 4) (f := 4) (v := iV (σ6 1 4)) (pc := 90) hC dX5_readSide_90 fl_5_32 rfl rfl ?_
          refine st_iconst (pc := 93) hC dX5_readSide_93 (by decide) ?_
          refine st_iadd (pc := 94) hC dX5_readSide_94 ?_
          refine st_putfI (ci := 4) (f := 4) (pc := 95) hC dX5_readSide_95 fl_5_32 rfl rfl ?_
          refine st_iinc (L2 := [rV 14 1, iV x1, iV (w32 (x2 + 1)), iV v3]) (pc := 98) hC dX5_readSide_98 rfl (Nat.le_of_ble_eq_true rfl) rfl ?_
          refine st_goto (tg := 16) (pc := 101) hC dX5_readSide_101 (by decide) ?_
          exact st_fg (L2 := [rV 14 1, iV x1, iV (w32 (x2 + 1)), uV]) hC ⟨Or.inl rfl, Or.inl rfl, Or.inl rfl, Or.inr rfl, trivial⟩ h
  · refine st_iconst (pc := 104) hC dX5_readSide_104 (by decide) ?_
    exact st_ireturn (pc := 105) hC dX5_readSide_105 (Or.inr rfl) h
