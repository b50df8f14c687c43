theorem bX11_ten_4 {C : Nat → List Vv → Sg → Rs → Sg → Prop} {X : Nat → List Vv → List Vv → Sg → Prop} {Xr : List Vv → Sg → Prop} {Xt : Nat → Sg → Prop} (hC : Clo C 11 cX11_ten (some .int) X Xr Xt) {x0 x1 x2 : Int} {σ : Sg} (h : if x2 < x0 then (X 4 [iV x0, iV (w32 (x1 * 10)), iV (w32 (x2 + 1))] [] σ) else (Xr [iV x1] σ)) : X 4 [iV x0, iV x1, iV x2] [] σ := by
  refine st_iload_n (pc := 4) hC dX11_ten_4 rfl ?_
  refine st_iload_n (pc := 5) hC dX11_ten_5 rfl ?_
  refine st_icmp_ge (tg := 20) (pc := 6) hC dX11_ten_6 (by decide) (ite_im h (fun h => ?_) (fun h => ?_))
  · refine st_iload_n (pc := 9) hC dX11_ten_9 rfl ?_
    refine st_bipush (pc := 10) hC dX11_ten_10 (by decide) ?_
    refine st_imul (pc := 12) hC dX11_ten_12 ?_
    refine st_istore_n (L2 := [iV x0, iV (w32 (x1 * 10)), iV x2]) (pc := 13) hC dX11_ten_13 (Nat.le_of_ble_eq_true rfl) rfl ?_
    refine st_iinc (L2 := [iV x0, iV (w32 (x1 * 10)), iV (w32 (x2 + 1))]) (pc := 14) hC dX11_ten_14 rfl (Nat.le_of_ble_eq_true rfl) rfl ?_
    refine st_goto (tg := 4) (pc := 17) hC dX11_ten_17 (by decide) ?_
    exact h
  · refine st_iload_n (pc := 20) hC dX11_ten_20 rfl ?_
    exact st_ireturn (pc := 21) hC dX11_ten_21 trivial h
theorem bX11_meets_0 {C : Nat → List Vv → Sg → Rs → Sg → Prop} {X : Nat → List Vv → List Vv → Sg → Prop} {Xr : List Vv → Sg → Prop} {Xt : Nat → Sg → Prop} (hC : Clo C 11 cX11_meets none X Xr Xt) {x1 : Int} {σ : Sg} (h : X 14 [rV 20 66, iV x1, iV (iandI (ixorI (w32 (x1 * 31)) (iushrI x1 7)) 32767)] [] σ) : X 0 [rV 20 66, iV x1, uV] [] σ := by
  refine st_iload_n (pc := 0) hC dX11_meets_0 rfl ?_
  refine st_bipush (pc := 1) hC dX11_meets_1 (by decide) ?_
  refine st_imul (pc := 3) hC dX11_meets_3 ?_
  refine st_iload_n (pc := 4) hC dX11_meets_4 rfl ?_
  refine st_bipush (pc := 5) hC dX11_meets_5 (by decide) ?_
  refine st_iushr (pc := 7) hC dX11_meets_7 ?_
  refine st_ixor (pc := 8) hC dX11_meets_8 ?_
  refine st_sipush (pc := 9) hC dX11_meets_9 (by decide) ?_
  refine st_iand (pc := 12) hC dX11_meets_12 ?_
  refine st_istore_n (L2 := [rV 20 66, iV x1, iV (iandI (ixorI (w32 (x1 * 31)) (iushrI x1 7)) 32767)]) (pc := 13) hC dX11_meets_13 (Nat.le_of_ble_eq_true rfl) rfl ?_
  exact h
theorem bX11_meets_14 {C : Nat → List Vv → Sg → Rs → Sg → Prop} {X : Nat → List Vv → List Vv → Sg → Prop} {Xr : List Vv → Sg → Prop} {Xt : Nat → Sg → Prop} (hC : Clo C 11 cX11_meets none X Xr Xt) {x1 x2 : Int} {σ : Sg} (h : (0 ≤ x2 ∧ x2 < 32768) ∧ (if (σ 76 (x2).toNat) = 0 then ((0 ≤ x2 ∧ x2 < 32768) ∧ ((0 ≤ ((upS σ 76 (x2).toNat (w32 (x1 + 1))) 66 23) ∧ ((upS σ 76 (x2).toNat (w32 (x1 + 1))) 66 23) < 24000) ∧ (Xr [] (upS (upS (upS σ 76 (x2).toNat (w32 (x1 + 1))) 75 (((upS σ 76 (x2).toNat (w32 (x1 + 1))) 66 23)).toNat x1) 66 23 (w32 (((upS (upS σ 76 (x2).toNat (w32 (x1 + 1))) 75 (((upS σ 76 (x2).toNat (w32 (x1 + 1))) 66 23)).toNat x1) 66 23) + 1)))))) else ((0 ≤ x2 ∧ x2 < 32768) ∧ (if (σ 76 (x2).toNat) = (w32 (x1 + 1)) then (Xr [] σ) else (X 14 [rV 20 66, iV x1, iV (iandI (w32 (x2 + 1)) 32767)] [] σ))))) : X 14 [rV 20 66, iV x1, iV x2] [] σ := by
  refine st_aload_n (pc := 14) hC dX11_meets_14 rfl (by decide) (by decide) ?_
  refine st_getf (ci := 10) (f := 22) (v := rV 1032768 76) (pc := 15) hC dX11_meets_15 fl_11_44 rfl rfl ?_
  refine st_iload_n (pc := 18) hC dX11_meets_18 rfl ?_
  obtain ⟨hb, h⟩ := h
  refine st_iald (n := 32768) (pc := 19) hC dX11_meets_19 (by decide) hb ?_
  refine st_if_eq (tg := 47) (pc := 20) hC dX11_meets_20 (by decide) (ite_im h (fun h => ?_) (fun h => ?_))
  · refine st_aload_n (pc := 47) hC dX11_meets_47 rfl (by decide) (by decide) ?_
    refine st_getf (ci := 10) (f := 22) (v := rV 1032768 76) (pc := 48) hC dX11_meets_48 fl_11_44 rfl rfl ?_
    refine st_iload_n (pc := 51) hC dX11_meets_51 rfl ?_
    refine st_iload_n (pc := 52) hC dX11_meets_52 rfl ?_
    refine st_iconst (pc := 53) hC dX11_meets_53 (by decide) ?_
    refine st_iadd (pc := 54) hC dX11_meets_54 ?_
    obtain ⟨hb, h⟩ := h
    refine st_iast (n := 32768) (pc := 55) hC dX11_meets_55 (by decide) hb ?_
    refine st_aload_n (pc := 56) hC dX11_meets_56 rfl (by decide) (by decide) ?_
    refine st_getf (ci := 10) (f := 21) (v := rV 1024000 75) (pc := 57) hC dX11_meets_57 fl_11_40 rfl rfl ?_
    refine st_aload_n (pc := 60) hC dX11_meets_60 rfl (by decide) (by decide) ?_
    refine st_getf (ci := 10) (f := 23) (v := iV ((upS σ 76 (x2).toNat (w32 (x1 + 1))) 66 23)) (pc := 61) hC dX11_meets_61 fl_11_291 rfl rfl ?_
    refine st_iload_n (pc := 64) hC dX11_meets_64 rfl ?_
    obtain ⟨hb, h⟩ := h
    refine st_iast (n := 24000) (pc := 65) hC dX11_meets_65 (by decide) hb ?_
    refine st_aload_n (pc := 66) hC dX11_meets_66 rfl (by decide) (by decide) ?_
    refine st_dupR (pc := 67) hC dX11_meets_67 (by decide) (by decide) ?_
    refine st_getf (ci := 10) (f := 23) (v := iV ((upS (upS σ 76 (x2).toNat (w32 (x1 + 1))) 75 (((upS σ 76 (x2).toNat (w32 (x1 + 1))) 66 23)).toNat x1) 66 23)) (pc := 68) hC dX11_meets_68 fl_11_291 rfl rfl ?_
    refine st_iconst (pc := 71) hC dX11_meets_71 (by decide) ?_
    refine st_iadd (pc := 72) hC dX11_meets_72 ?_
    refine st_putfI (ci := 10) (f := 23) (pc := 73) hC dX11_meets_73 fl_11_291 rfl rfl ?_
    exact st_return (pc := 76) hC dX11_meets_76 h
  · refine st_aload_n (pc := 23) hC dX11_meets_23 rfl (by decide) (by decide) ?_
    refine st_getf (ci := 10) (f := 22) (v := rV 1032768 76) (pc := 24) hC dX11_meets_24 fl_11_44 rfl rfl ?_
    refine st_iload_n (pc := 27) hC dX11_meets_27 rfl ?_
    obtain ⟨hb, h⟩ := h
    refine st_iald (n := 32768) (pc := 28) hC dX11_meets_28 (by decide) hb ?_
    refine st_iload_n (pc := 29) hC dX11_meets_29 rfl ?_
    refine st_iconst (pc := 30) hC dX11_meets_30 (by decide) ?_
    refine st_iadd (pc := 31) hC dX11_meets_31 ?_
    refine st_icmp_ne (tg := 36) (pc := 32) hC dX11_meets_32 (by decide) (ite_im h (fun h => ?_) (fun h => ?_))
    · exact st_return (pc := 35) hC dX11_meets_35 h
    · refine st_iload_n (pc := 36) hC dX11_meets_36 rfl ?_
      refine st_iconst (pc := 37) hC dX11_meets_37 (by decide) ?_
      refine st_iadd (pc := 38) hC dX11_meets_38 ?_
      refine st_sipush (pc := 39) hC dX11_meets_39 (by decide) ?_
      refine st_iand (pc := 42) hC dX11_meets_42 ?_
      refine st_istore_n (L2 := [rV 20 66, iV x1, iV (iandI (w32 (x2 + 1)) 32767)]) (pc := 43) hC dX11_meets_43 (Nat.le_of_ble_eq_true rfl) rfl ?_
      refine st_goto (tg := 14) (pc := 44) hC dX11_meets_44 (by decide) ?_
      exact h
theorem bX11_isAsked_0 {C : Nat → List Vv → Sg → Rs → Sg → Prop} {X : Nat → List Vv → List Vv → Sg → Prop} {Xr : List Vv → Sg → Prop} {Xt : Nat → Sg → Prop} (hC : Clo C 11 cX11_isAsked (some .boolean) X Xr Xt) {x1 : Int} {σ : Sg} (h : X 2 [rV 20 66, iV x1, iV 0] [] σ) : X 0 [rV 20 66, iV x1, uV] [] σ := by
  refine st_iconst (pc := 0) hC dX11_isAsked_0 (by decide) ?_
  refine st_istore_n (L2 := [rV 20 66, iV x1, iV 0]) (pc := 1) hC dX11_isAsked_1 (Nat.le_of_ble_eq_true rfl) rfl ?_
  exact h
theorem bX11_isAsked_2 {C : Nat → List Vv → Sg → Rs → Sg → Prop} {X : Nat → List Vv → List Vv → Sg → Prop} {Xr : List Vv → Sg → Prop} {Xt : Nat → Sg → Prop} (hC : Clo C 11 cX11_isAsked (some .boolean) X Xr Xt) {x1 x2 : Int} {σ : Sg} (h : ∃ v1 : Int, C MX11_coins [rV 20 66] σ (.inl [iV v1]) σ ∧ (if x2 < v1 then (∃ v2 : Int, C MX11_ten [iV x2] σ (.inl [iV v2]) σ ∧ (v2 ≠ 0 ∧ ((0 ≤ x2 ∧ x2 < 8) ∧ (if ((w32 (x1.tdiv v2)).tmod 10) < (σ 73 (x2).toNat) then (Xr [iV 0] σ) else (X 2 [rV 20 66, iV x1, iV (w32 (x2 + 1))] [] σ))))) else (Xr [iV 1] σ))) : X 2 [rV 20 66, iV x1, iV x2] [] σ := by
  refine st_iload_n (pc := 2) hC dX11_isAsked_2 rfl ?_
  refine st_aload_n (pc := 3) hC dX11_isAsked_3 rfl (by decide) (by decide) ?_
  obtain ⟨v1, hq, h⟩ := h
  refine st_invV (As := []) (v := [iV v1]) (S := [iV x2]) (pc := 4) hC dX11_isAsked_4 cl_11_193 rfl rfl (Nat.le_of_ble_eq_true rfl) cr_X11_coins hq ?_
  refine st_icmp_ge (tg := 36) (pc := 7) hC dX11_isAsked_7 (by decide) (ite_im h (fun h => ?_) (fun h => ?_))
  · refine st_iload_n (pc := 10) hC dX11_isAsked_10 rfl ?_
    refine st_iload_n (pc := 11) hC dX11_isAsked_11 rfl ?_
    obtain ⟨v2, hq, h⟩ := h
    refine st_invS (As := [iV x2]) (v := [iV v2]) (S := [iV x1]) (pc := 12) hC dX11_isAsked_12 cl_11_294 rfl rfl (Nat.le_of_ble_eq_true rfl) hq ?_
    obtain ⟨h0, h⟩ := h
    refine st_idiv (pc := 15) hC dX11_isAsked_15 h0 ?_
    refine st_bipush (pc := 16) hC dX11_isAsked_16 (by decide) ?_
    refine st_irem (pc := 18) hC dX11_isAsked_18 (by decide) ?_
    refine st_aload_n (pc := 19) hC dX11_isAsked_19 rfl (by decide) (by decide) ?_
    refine st_getf (ci := 10) (f := 17) (v := rV 1000008 73) (pc := 20) hC dX11_isAsked_20 fl_11_33 rfl rfl ?_
    refine st_iload_n (pc := 23) hC dX11_isAsked_23 rfl ?_
    obtain ⟨hb, h⟩ := h
    refine st_iald (n := 8) (pc := 24) hC dX11_isAsked_24 (by decide) hb ?_
    refine st_icmp_ge (tg := 30) (pc := 25) hC dX11_isAsked_25 (by decide) (ite_im h (fun h => ?_) (fun h => ?_))
    · refine st_iconst (pc := 28) hC dX11_isAsked_28 (by decide) ?_
      exact st_ireturn (pc := 29) hC dX11_isAsked_29 (Or.inl rfl) h
    · refine st_iinc (L2 := [rV 20 66, iV x1, iV (w32 (x2 + 1))]) (pc := 30) hC dX11_isAsked_30 rfl (Nat.le_of_ble_eq_true rfl) rfl ?_
      refine st_goto (tg := 2) (pc := 33) hC dX11_isAsked_33 (by decide) ?_
      exact h
  · refine st_iconst (pc := 36) hC dX11_isAsked_36 (by decide) ?_
    exact st_ireturn (pc := 37) hC dX11_isAsked_37 (Or.inr rfl) h
theorem bX11_changed_0 {C : Nat → List Vv → Sg → Rs → Sg → Prop} {X : Nat → List Vv → List Vv → Sg → Prop} {Xr : List Vv → Sg → Prop} {Xt : Nat → Sg → Prop} (hC : Clo C 11 cX11_changed (some .int) X Xr Xt) {x1 x2 : Int} {σ : Sg} (h : X 8 [rV 20 66, iV x1, iV x2, iV x1, iV 0, iV 0, uV] [] σ) : X 0 [rV 20 66, iV x1, iV x2, uV, uV, uV, uV] [] σ := by
  refine st_iload_n (pc := 0) hC dX11_changed_0 rfl ?_
  refine st_istore_n (L2 := [rV 20 66, iV x1, iV x2, iV x1, uV, uV, uV]) (pc := 1) hC dX11_changed_1 (Nat.le_of_ble_eq_true rfl) rfl ?_
  refine st_iconst (pc := 2) hC dX11_changed_2 (by decide) ?_
  refine st_istore (L2 := [rV 20 66, iV x1, iV x2, iV x1, iV 0, uV, uV]) (pc := 3) hC dX11_changed_3 (Nat.le_of_ble_eq_true rfl) rfl ?_
  refine st_iconst (pc := 5) hC dX11_changed_5 (by decide) ?_
  refine st_istore (L2 := [rV 20 66, iV x1, iV x2, iV x1, iV 0, iV 0, uV]) (pc := 6) hC dX11_changed_6 (Nat.le_of_ble_eq_true rfl) rfl ?_
  exact h
theorem bX11_changed_8 {C : Nat → List Vv → Sg → Rs → Sg → Prop} {X : Nat → List Vv → List Vv → Sg → Prop} {Xr : List Vv → Sg → Prop} {Xt : Nat → Sg → Prop} (hC : Clo C 11 cX11_changed (some .int) X Xr Xt) {x1 x2 x3 x4 x5 : Int} {σ : Sg} (h : ∃ v1 : Int, C MX11_coins [rV 20 66] σ (.inl [iV v1]) σ ∧ (if x5 < v1 then (∃ v2 : Int, C MX11_ten [iV x5] σ (.inl [iV v2]) σ ∧ (v2 ≠ 0 ∧ (∃ v3 : Int, C MX11_side [rV 20 66, iV x2, iV 0, iV x5] σ (.inl [iV v3]) σ ∧ (if ((w32 (x1.tdiv v2)).tmod 10) < v3 then (Xr [iV (-1)] σ) else (∃ v4 : Int, C MX11_side [rV 20 66, iV x2, iV 1, iV x5] σ (.inl [iV v4]) σ ∧ (∃ v5 : Int, C MX11_side [rV 20 66, iV x2, iV 0, iV x5] σ (.inl [iV v5]) σ ∧ (∃ v6 : Int, C MX11_ten [iV x5] σ (.inl [iV v6]) σ ∧ (∃ v7 : Int, C MX11_side [rV 20 66, iV x2, iV 0, iV x5] σ (.inl [iV v7]) σ ∧ (∃ v8 : Int, C MX11_side [rV 20 66, iV x2, iV 1, iV x5] σ (.inl [iV v8]) σ ∧ (X 8 [rV 20 66, iV x1, iV x2, iV (w32 (x3 + (w32 ((w32 (v4 - v5)) * v6)))), iV (w32 (x4 + (w32 ((w32 (((w32 (x1.tdiv v2)).tmod 10) - v7)) + v8)))), iV (w32 (x5 + 1)), uV] [] σ)))))))))) else (if (9 : Int) < x4 then (Xr [iV (-1)] σ) else (Xr [iV x3] σ)))) : X 8 [rV 20 66, iV x1, iV x2, iV x3, iV x4, iV x5, uV] [] σ := by
  refine st_iload (pc := 8) hC dX11_changed_8 rfl ?_
  refine st_aload_n (pc := 10) hC dX11_changed_10 rfl (by decide) (by decide) ?_
  obtain ⟨v1, hq, h⟩ := h
  refine st_invV (As := []) (v := [iV v1]) (S := [iV x5]) (pc := 11) hC dX11_changed_11 cl_11_193 rfl rfl (Nat.le_of_ble_eq_true rfl) cr_X11_coins hq ?_
  refine st_icmp_ge (tg := 101) (pc := 14) hC dX11_changed_14 (by decide) (ite_im h (fun h => ?_) (fun h => ?_))
  · refine st_iload_n (pc := 17) hC dX11_changed_17 rfl ?_
    refine st_iload (pc := 18) hC dX11_changed_18 rfl ?_
    obtain ⟨v2, hq, h⟩ := h
    refine st_invS (As := [iV x5]) (v := [iV v2]) (S := [iV x1]) (pc := 20) hC dX11_changed_20 cl_11_294 rfl rfl (Nat.le_of_ble_eq_true rfl) hq ?_
    obtain ⟨h0, h⟩ := h
    refine st_idiv (pc := 23) hC dX11_changed_23 h0 ?_
    refine st_bipush (pc := 24) hC dX11_changed_24 (by decide) ?_
    refine st_irem (pc := 26) hC dX11_changed_26 (by decide) ?_
    refine st_istore (L2 := [rV 20 66, iV x1, iV x2, iV x3, iV x4, iV x5, iV ((w32 (x1.tdiv v2)).tmod 10)]) (pc := 27) hC dX11_changed_27 (Nat.le_of_ble_eq_true rfl) rfl ?_
    refine st_iload (pc := 29) hC dX11_changed_29 rfl ?_
    refine st_aload_n (pc := 31) hC dX11_changed_31 rfl (by decide) (by decide) ?_
    refine st_iload_n (pc := 32) hC dX11_changed_32 rfl ?_
    refine st_iconst (pc := 33) hC dX11_changed_33 (by decide) ?_
    refine st_iload (pc := 34) hC dX11_changed_34 rfl ?_
    obtain ⟨v3, hq, h⟩ := h
    refine st_invV (As := [iV x2, iV 0, iV x5]) (v := [iV v3]) (S := [iV ((w32 (x1.tdiv v2)).tmod 10)]) (pc := 36) hC dX11_changed_36 cl_11_240 rfl rfl (Nat.le_of_ble_eq_true rfl) cr_X11_side hq ?_
    refine st_icmp_ge (tg := 44) (pc := 39) hC dX11_changed_39 (by decide) (ite_im h (fun h => ?_) (fun h => ?_))
    · refine st_iconst (pc := 42) hC dX11_changed_42 (by decide) ?_
      exact st_ireturn (pc := 43) hC dX11_changed_43 trivial h
    · refine st_iload_n (pc := 44) hC dX11_changed_44 rfl ?_
      refine st_aload_n (pc := 45) hC dX11_changed_45 rfl (by decide) (by decide) ?_
      refine st_iload_n (pc := 46) hC dX11_changed_46 rfl ?_
      refine st_iconst (pc := 47) hC dX11_changed_47 (by decide) ?_
      refine st_iload (pc := 48) hC dX11_changed_48 rfl ?_
      obtain ⟨v4, hq, h⟩ := h
      refine st_invV (As := [iV x2, iV 1, iV x5]) (v := [iV v4]) (S := [iV x3]) (pc := 50) hC dX11_changed_50 cl_11_240 rfl rfl (Nat.le_of_ble_eq_true rfl) cr_X11_side hq ?_
      refine st_aload_n (pc := 53) hC dX11_changed_53 rfl (by decide) (by decide) ?_
      refine st_iload_n (pc := 54) hC dX11_changed_54 rfl ?_
      refine st_iconst (pc := 55) hC dX11_changed_55 (by decide) ?_
      refine st_iload (pc := 56) hC dX11_changed_56 rfl ?_
      obtain ⟨v5, hq, h⟩ := h
      refine st_invV (As := [iV x2, iV 0, iV x5]) (v := [iV v5]) (S := [iV v4, iV x3]) (pc := 58) hC dX11_changed_58 cl_11_240 rfl rfl (Nat.le_of_ble_eq_true rfl) cr_X11_side hq ?_
      refine st_isub (pc := 61) hC dX11_changed_61 ?_
      refine st_iload (pc := 62) hC dX11_changed_62 rfl ?_
      obtain ⟨v6, hq, h⟩ := h
      refine st_invS (As := [iV x5]) (v := [iV v6]) (S := [iV (w32 (v4 - v5)), iV x3]) (pc := 64) hC dX11_changed_64 cl_11_294 rfl rfl (Nat.le_of_ble_eq_true rfl) hq ?_
      refine st_imul (pc := 67) hC dX11_changed_67 ?_
      refine st_iadd (pc := 68) hC dX11_changed_68 ?_
      refine st_istore_n (L2 := [rV 20 66, iV x1, iV x2, iV (w32 (x3 + (w32 ((w32 (v4 - v5)) * v6)))), iV x4, iV x5, iV ((w32 (x1.tdiv v2)).tmod 10)]) (pc := 69) hC dX11_changed_69 (Nat.le_of_ble_eq_true rfl) rfl ?_
      refine st_iload (pc := 70) hC dX11_changed_70 rfl ?_
      refine st_iload (pc := 72) hC dX11_changed_72 rfl ?_
      refine st_aload_n (pc := 74) hC dX11_changed_74 rfl (by decide) (by decide) ?_
      refine st_iload_n (pc := 75) hC dX11_changed_75 rfl ?_
      refine st_iconst (pc := 76) hC dX11_changed_76 (by decide) ?_
      refine st_iload (pc := 77) hC dX11_changed_77 rfl ?_
      obtain ⟨v7, hq, h⟩ := h
      refine st_invV (As := [iV x2, iV 0, iV x5]) (v := [iV v7]) (S := [iV ((w32 (x1.tdiv v2)).tmod 10), iV x4]) (pc := 79) hC dX11_changed_79 cl_11_240 rfl rfl (Nat.le_of_ble_eq_true rfl) cr_X11_side hq ?_
      refine st_isub (pc := 82) hC dX11_changed_82 ?_
      refine st_aload_n (pc := 83) hC dX11_changed_83 rfl (by decide) (by decide) ?_
      refine st_iload_n (pc := 84) hC dX11_changed_84 rfl ?_
      refine st_iconst (pc := 85) hC dX11_changed_85 (by decide) ?_
      refine st_iload (pc := 86) hC dX11_changed_86 rfl ?_
      obtain ⟨v8, hq, h⟩ := h
      refine st_invV (As := [iV x2, iV 1, iV x5]) (v := [iV v8]) (S := [iV (w32 (((w32 (x1.tdiv v2)).tmod 10) - v7)), iV x4]) (pc := 88) hC dX11_changed_88 cl_11_240 rfl rfl (Nat.le_of_ble_eq_true rfl) cr_X11_side hq ?_
      refine st_iadd (pc := 91) hC dX11_changed_91 ?_
      refine st_iadd (pc := 92) hC dX11_changed_92 ?_
      refine st_istore (L2 := [rV 20 66, iV x1, iV x2, iV (w32 (x3 + (w32 ((w32 (v4 - v5)) * v6)))), iV (w32 (x4 + (w32 ((w32 (((w32 (x1.tdiv v2)).tmod 10) - v7)) + v8)))), iV x5, iV ((w32 (x1.tdiv v2)).tmod 10)]) (pc := 93) hC dX11_changed_93 (Nat.le_of_ble_eq_true rfl) rfl ?_
      refine st_iinc (L2 := [rV 20 66, iV x1, iV x2, iV (w32 (x3 + (w32 ((w32 (v4 - v5)) * v6)))), iV (w32 (x4 + (w32 ((w32 (((w32 (x1.tdiv v2)).tmod 10) - v7)) + v8)))), iV (w32 (x5 + 1)), iV ((w32 (x1.tdiv v2)).tmod 10)]) (pc := 95) hC dX11_changed_95 rfl (Nat.le_of_ble_eq_true rfl) rfl ?_
      refine st_goto (tg := 8) (pc := 98) hC dX11_changed_98 (by decide) ?_
      exact st_fg (L2 := [rV 20 66, iV x1, iV x2, iV (w32 (x3 + (w32 ((w32 (v4 - v5)) * v6)))), iV (w32 (x4 + (w32 ((w32 (((w32 (x1.tdiv v2)).tmod 10) - v7)) + v8)))), iV (w32 (x5 + 1)), uV]) hC ⟨Or.inl rfl, Or.inl rfl, Or.inl rfl, Or.inl rfl, Or.inl rfl, Or.inl rfl, Or.inr rfl, trivial⟩ h
  · refine st_iload (pc := 101) hC dX11_changed_101 rfl ?_
    refine st_bipush (pc := 103) hC dX11_changed_103 (by decide) ?_
    refine st_icmp_le (tg := 112) (pc := 105) hC dX11_changed_105 (by decide) (ite_im h (fun h => ?_) (fun h => ?_))
    · refine st_iconst (pc := 108) hC dX11_changed_108 (by decide) ?_
      refine st_goto (tg := 113) (pc := 109) hC dX11_changed_109 (by decide) ?_
      exact st_ireturn (pc := 113) hC dX11_changed_113 trivial h
    · refine st_iload_n (pc := 112) hC dX11_changed_112 rfl ?_
      exact st_ireturn (pc := 113) hC dX11_changed_113 trivial h
theorem bX11_fewest_0 {C : Nat → List Vv → Sg → Rs → Sg → Prop} {X : Nat → List Vv → List Vv → Sg → Prop} {Xr : List Vv → Sg → Prop} {Xt : Nat → Sg → Prop} (hC : Clo C 11 cX11_fewest (some .int) X Xr Xt) {x1 x2 : Int} {σ : Sg} (h : ∃ v1 : Int, C MX11_isPerson [rV 20 66, lV x1] σ (.inl [iV v1]) σ ∧ (if v1 = 0 then (if (0 : Int) < ((upS σ 66 5 1) 66 5) then (Xr [iV 0] (upS σ 66 5 1)) else (∃ σ2 : Sg, C MX11_beginsMet [rV 20 66, iV x1] (upS σ 66 5 1) (.inl []) σ2 ∧ (X 50 [rV 20 66, iV x1, lV x2, uV, iV 0, iV 0, uV, uV, uV, uV] [] σ2))) else (∃ v3 : Int, ∃ σ3 : Sg, C MX11_laysPrice [rV 20 66, lV x2] σ (.inl [iV v3]) σ3 ∧ (if v3 = 0 then (if (0 : Int) < ((upS σ3 66 5 2) 66 5) then (Xr [iV 0] (upS σ3 66 5 2)) else (∃ σ4 : Sg, C MX11_beginsMet [rV 20 66, iV x1] (upS σ3 66 5 2) (.inl []) σ4 ∧ (X 50 [rV 20 66, iV x1, lV x2, uV, iV 0, iV 0, uV, uV, uV, uV] [] σ4))) else (if (0 : Int) < ((upS σ3 66 5 0) 66 5) then (Xr [iV 0] (upS σ3 66 5 0)) else (∃ σ5 : Sg, C MX11_beginsMet [rV 20 66, iV x1] (upS σ3 66 5 0) (.inl []) σ5 ∧ (X 50 [rV 20 66, iV x1, lV x2, uV, iV 0, iV 0, uV, uV, uV, uV] [] σ5))))))) : X 0 [rV 20 66, iV x1, lV x2, uV, uV, uV, uV, uV, uV, uV] [] σ := by
  refine st_aload_n (pc := 0) hC dX11_fewest_0 rfl (by decide) (by decide) ?_
  refine st_aload_n (pc := 1) hC dX11_fewest_1 rfl (by decide) (by decide) ?_
  refine st_iload_n (pc := 2) hC dX11_fewest_2 rfl ?_
  refine st_i2l (pc := 3) hC dX11_fewest_3 ?_
  obtain ⟨v1, hq, h⟩ := h
  refine st_invV (As := [lV x1]) (v := [iV v1]) (S := [rV 20 66]) (pc := 4) hC dX11_fewest_4 cl_11_203 rfl rfl (Nat.le_of_ble_eq_true rfl) cr_X11_isPerson hq ?_
  refine st_if_ne (tg := 14) (pc := 7) hC dX11_fewest_7 (by decide) (ite_im h (fun h => ?_) (fun h => ?_))
  · refine st_iconst (pc := 10) hC dX11_fewest_10 (by decide) ?_
    refine st_goto (tg := 27) (pc := 11) hC dX11_fewest_11 (by decide) ?_
    refine st_putfI (ci := 10) (f := 5) (pc := 27) hC dX11_fewest_27 fl_11_64 rfl rfl ?_
    refine st_aload_n (pc := 30) hC dX11_fewest_30 rfl (by decide) (by decide) ?_
    refine st_getf (ci := 10) (f := 5) (v := iV ((upS σ 66 5 1) 66 5)) (pc := 31) hC dX11_fewest_31 fl_11_64 rfl rfl ?_
    refine st_if_le (tg := 39) (pc := 34) hC dX11_fewest_34 (by decide) (ite_im h (fun h => ?_) (fun h => ?_))
    · refine st_iconst (pc := 37) hC dX11_fewest_37 (by decide) ?_
      exact st_ireturn (pc := 38) hC dX11_fewest_38 trivial h
    · refine st_aload_n (pc := 39) hC dX11_fewest_39 rfl (by decide) (by decide) ?_
      refine st_iload_n (pc := 40) hC dX11_fewest_40 rfl ?_
      obtain ⟨σ2, hq, h⟩ := h
      refine st_invV (As := [iV x1]) (v := []) (S := []) (pc := 41) hC dX11_fewest_41 cl_11_297 rfl rfl (Nat.le_of_ble_eq_true rfl) cr_X11_beginsMet hq ?_
      refine st_iconst (pc := 44) hC dX11_fewest_44 (by decide) ?_
      refine st_istore (L2 := [rV 20 66, iV x1, lV x2, uV, iV 0, uV, uV, uV, uV, uV]) (pc := 45) hC dX11_fewest_45 (Nat.le_of_ble_eq_true rfl) rfl ?_
      refine st_iconst (pc := 47) hC dX11_fewest_47 (by decide) ?_
      refine st_istore (L2 := [rV 20 66, iV x1, lV x2, uV, iV 0, iV 0, uV, uV, uV, uV]) (pc := 48) hC dX11_fewest_48 (Nat.le_of_ble_eq_true rfl) rfl ?_
      exact h
  · refine st_aload_n (pc := 14) hC dX11_fewest_14 rfl (by decide) (by decide) ?_
    refine st_lload_n (pc := 15) hC dX11_fewest_15 rfl ?_
    obtain ⟨v3, σ3, hq, h⟩ := h
    refine st_invV (As := [lV x2]) (v := [iV v3]) (S := [rV 20 66]) (pc := 16) hC dX11_fewest_16 cl_11_224 rfl rfl (Nat.le_of_ble_eq_true rfl) cr_X11_laysPrice hq ?_
    refine st_if_eq (tg := 26) (pc := 19) hC dX11_fewest_19 (by decide) (ite_im h (fun h => ?_) (fun h => ?_))
    · refine st_iconst (pc := 26) hC dX11_fewest_26 (by decide) ?_
      refine st_putfI (ci := 10) (f := 5) (pc := 27) hC dX11_fewest_27 fl_11_64 rfl rfl ?_
      refine st_aload_n (pc := 30) hC dX11_fewest_30 rfl (by decide) (by decide) ?_
      refine st_getf (ci := 10) (f := 5) (v := iV ((upS σ3 66 5 2) 66 5)) (pc := 31) hC dX11_fewest_31 fl_11_64 rfl rfl ?_
      refine st_if_le (tg := 39) (pc := 34) hC dX11_fewest_34 (by decide) (ite_im h (fun h => ?_) (fun h => ?_))
      · refine st_iconst (pc := 37) hC dX11_fewest_37 (by decide) ?_
        exact st_ireturn (pc := 38) hC dX11_fewest_38 trivial h
      · refine st_aload_n (pc := 39) hC dX11_fewest_39 rfl (by decide) (by decide) ?_
        refine st_iload_n (pc := 40) hC dX11_fewest_40 rfl ?_
        obtain ⟨σ4, hq, h⟩ := h
        refine st_invV (As := [iV x1]) (v := []) (S := []) (pc := 41) hC dX11_fewest_41 cl_11_297 rfl rfl (Nat.le_of_ble_eq_true rfl) cr_X11_beginsMet hq ?_
        refine st_iconst (pc := 44) hC dX11_fewest_44 (by decide) ?_
        refine st_istore (L2 := [rV 20 66, iV x1, lV x2, uV, iV 0, uV, uV, uV, uV, uV]) (pc := 45) hC dX11_fewest_45 (Nat.le_of_ble_eq_true rfl) rfl ?_
        refine st_iconst (pc := 47) hC dX11_fewest_47 (by decide) ?_
        refine st_istore (L2 := [rV 20 66, iV x1, lV x2, uV, iV 0, iV 0, uV, uV, uV, uV]) (pc := 48) hC dX11_fewest_48 (Nat.le_of_ble_eq_true rfl) rfl ?_
        exact h
    · refine st_iconst (pc := 22) hC dX11_fewest_22 (by decide) ?_
      refine st_goto (tg := 27) (pc := 23) hC dX11_fewest_23 (by decide) ?_
      refine st_putfI (ci := 10) (f := 5) (pc := 27) hC dX11_fewest_27 fl_11_64 rfl rfl ?_
      refine st_aload_n (pc := 30) hC dX11_fewest_30 rfl (by decide) (by decide) ?_
      refine st_getf (ci := 10) (f := 5) (v := iV ((upS σ3 66 5 0) 66 5)) (pc := 31) hC dX11_fewest_31 fl_11_64 rfl rfl ?_
      refine st_if_le (tg := 39) (pc := 34) hC dX11_fewest_34 (by decide) (ite_im h (fun h => ?_) (fun h => ?_))
      · refine st_iconst (pc := 37) hC dX11_fewest_37 (by decide) ?_
        exact st_ireturn (pc := 38) hC dX11_fewest_38 trivial h
      · refine st_aload_n (pc := 39) hC dX11_fewest_39 rfl (by decide) (by decide) ?_
        refine st_iload_n (pc := 40) hC dX11_fewest_40 rfl ?_
        obtain ⟨σ5, hq, h⟩ := h
        refine st_invV (As := [iV x1]) (v := []) (S := []) (pc := 41) hC dX11_fewest_41 cl_11_297 rfl rfl (Nat.le_of_ble_eq_true rfl) cr_X11_beginsMet hq ?_
        refine st_iconst (pc := 44) hC dX11_fewest_44 (by decide) ?_
        refine st_istore (L2 := [rV 20 66, iV x1, lV x2, uV, iV 0, uV, uV, uV, uV, uV]) (pc := 45) hC dX11_fewest_45 (Nat.le_of_ble_eq_true rfl) rfl ?_
        refine st_iconst (pc := 47) hC dX11_fewest_47 (by decide) ?_
        refine st_istore (L2 := [rV 20 66, iV x1, lV x2, uV, iV 0, iV 0, uV, uV, uV, uV]) (pc := 48) hC dX11_fewest_48 (Nat.le_of_ble_eq_true rfl) rfl ?_
        exact h
theorem bX11_fewest_50 {C : Nat → List Vv → Sg → Rs → Sg → Prop} {X : Nat → List Vv → List Vv → Sg → Prop} {Xr : List Vv → Sg → Prop} {Xt : Nat → Sg → Prop} (hC : Clo C 11 cX11_fewest (some .int) X Xr Xt) {x1 x2 x4 x5 : Int} {σ : Sg} (h : X 60 [rV 20 66, iV x1, lV x2, uV, iV x4, iV x5, iV (σ 66 23), iV x4, uV, uV] [] σ) : X 50 [rV 20 66, iV x1, lV x2, uV, iV x4, iV x5, uV, uV, uV, uV] [] σ := by
  refine st_aload_n (pc := 50) hC dX11_fewest_50 rfl (by decide) (by decide) ?_
  refine st_getf (ci := 10) (f := 23) (v := iV (σ 66 23)) (pc := 51) hC dX11_fewest_51 fl_11_291 rfl rfl ?_
  refine st_istore (L2 := [rV 20 66, iV x1, lV x2, uV, iV x4, iV x5, iV (σ 66 23), uV, uV, uV]) (pc := 54) hC dX11_fewest_54 (Nat.le_of_ble_eq_true rfl) rfl ?_
  refine st_iload (pc := 56) hC dX11_fewest_56 rfl ?_
  refine st_istore (L2 := [rV 20 66, iV x1, lV x2, uV, iV x4, iV x5, iV (σ 66 23), iV x4, uV, uV]) (pc := 58) hC dX11_fewest_58 (Nat.le_of_ble_eq_true rfl) rfl ?_
  exact h
theorem bX11_fewest_60 {C : Nat → List Vv → Sg → Rs → Sg → Prop} {X : Nat → List Vv → List Vv → Sg → Prop} {Xr : List Vv → Sg → Prop} {Xt : Nat → Sg → Prop} (hC : Clo C 11 cX11_fewest (some .int) X Xr Xt) {x1 x2 x4 x5 x6 x7 : Int} {σ : Sg} (h : if x7 < x6 then ((0 ≤ x7 ∧ x7 < 24000) ∧ (∃ v1 : Int, C MX11_isAsked [rV 20 66, iV (σ 75 (x7).toNat)] σ (.inl [iV v1]) σ ∧ (if v1 = 0 then (X 60 [rV 20 66, iV x1, lV x2, uV, iV x4, iV x5, iV x6, iV (w32 (x7 + 1)), uV, uV] [] σ) else (Xr [iV x5] σ)))) else (if (3000 : Int) < x6 then (Xr [iV (-1000)] σ) else (X 106 [rV 20 66, iV x1, lV x2, uV, iV x4, iV x5, iV x6, iV x4, uV, uV] [] σ))) : X 60 [rV 20 66, iV x1, lV x2, uV, iV x4, iV x5, iV x6, iV x7, uV, uV] [] σ := by
  refine st_iload (pc := 60) hC dX11_fewest_60 rfl ?_
  refine st_iload (pc := 62) hC dX11_fewest_62 rfl ?_
  refine st_icmp_ge (tg := 90) (pc := 64) hC dX11_fewest_64 (by decide) (ite_im h (fun h => ?_) (fun h => ?_))
  · refine st_aload_n (pc := 67) hC dX11_fewest_67 rfl (by decide) (by decide) ?_
    refine st_aload_n (pc := 68) hC dX11_fewest_68 rfl (by decide) (by decide) ?_
    refine st_getf (ci := 10) (f := 21) (v := rV 1024000 75) (pc := 69) hC dX11_fewest_69 fl_11_40 rfl rfl ?_
    refine st_iload (pc := 72) hC dX11_fewest_72 rfl ?_
    obtain ⟨hb, h⟩ := h
    refine st_iald (n := 24000) (pc := 74) hC dX11_fewest_74 (by decide) hb ?_
    obtain ⟨v1, hq, h⟩ := h
    refine st_invV (As := [iV (σ 75 (x7).toNat)]) (v := [iV v1]) (S := []) (pc := 75) hC dX11_fewest_75 cl_11_300 rfl rfl (Nat.le_of_ble_eq_true rfl) cr_X11_isAsked hq ?_
    refine st_if_eq (tg := 84) (pc := 78) hC dX11_fewest_78 (by decide) (ite_im h (fun h => ?_) (fun h => ?_))
    · refine st_iinc (L2 := [rV 20 66, iV x1, lV x2, uV, iV x4, iV x5, iV x6, iV (w32 (x7 + 1)), uV, uV]) (pc := 84) hC dX11_fewest_84 rfl (Nat.le_of_ble_eq_true rfl) rfl ?_
      refine st_goto (tg := 60) (pc := 87) hC dX11_fewest_87 (by decide) ?_
      exact h
    · refine st_iload (pc := 81) hC dX11_fewest_81 rfl ?_
      exact st_ireturn (pc := 83) hC dX11_fewest_83 trivial h
  · refine st_iload (pc := 90) hC dX11_fewest_90 rfl ?_
    refine st_sipush (pc := 92) hC dX11_fewest_92 (by decide) ?_
    refine st_icmp_le (tg := 102) (pc := 95) hC dX11_fewest_95 (by decide) (ite_im h (fun h => ?_) (fun h => ?_))
    · refine st_sipush (pc := 98) hC dX11_fewest_98 (by decide) ?_
      exact st_ireturn (pc := 101) hC dX11_fewest_101 trivial h
    · refine st_iload (pc := 102) hC dX11_fewest_102 rfl ?_
      refine st_istore (L2 := [rV 20 66, iV x1, lV x2, uV, iV x4, iV x5, iV x6, iV x4, uV, uV]) (pc := 104) hC dX11_fewest_104 (Nat.le_of_ble_eq_true rfl) rfl ?_
      exact h
theorem bX11_fewest_106 {C : Nat → List Vv → Sg → Rs → Sg → Prop} {X : Nat → List Vv → List Vv → Sg → Prop} {Xr : List Vv → Sg → Prop} {Xt : Nat → Sg → Prop} (hC : Clo C 11 cX11_fewest (some .int) X Xr Xt) {x1 x2 x4 x5 x6 x7 : Int} {σ : Sg} (h : if x7 < x6 then (X 116 [rV 20 66, iV x1, lV x2, uV, iV x4, iV x5, iV x6, iV x7, iV 0, uV] [] σ) else (if (σ 66 23) = x6 then (Xr [iV (-1)] σ) else (X 50 [rV 20 66, iV x1, lV x2, uV, iV x6, iV (w32 (x5 + 1)), uV, uV, uV, uV] [] σ))) : X 106 [rV 20 66, iV x1, lV x2, uV, iV x4, iV x5, iV x6, iV x7, uV, uV] [] σ := by
  refine st_iload (pc := 106) hC dX11_fewest_106 rfl ?_
  refine st_iload (pc := 108) hC dX11_fewest_108 rfl ?_
  refine st_icmp_ge (tg := 166) (pc := 110) hC dX11_fewest_110 (by decide) (ite_im h (fun h => ?_) (fun h => ?_))
  · refine st_iconst (pc := 113) hC dX11_fewest_113 (by decide) ?_
    refine st_istore (L2 := [rV 20 66, iV x1, lV x2, uV, iV x4, iV x5, iV x6, iV x7, iV 0, uV]) (pc := 114) hC dX11_fewest_114 (Nat.le_of_ble_eq_true rfl) rfl ?_
    exact h
  · refine st_aload_n (pc := 166) hC dX11_fewest_166 rfl (by decide) (by decide) ?_
    refine st_getf (ci := 10) (f := 23) (v := iV (σ 66 23)) (pc := 167) hC dX11_fewest_167 fl_11_291 rfl rfl ?_
    refine st_iload (pc := 170) hC dX11_fewest_170 rfl ?_
    refine st_icmp_ne (tg := 177) (pc := 172) hC dX11_fewest_172 (by decide) (ite_im h (fun h => ?_) (fun h => ?_))
    · refine st_iconst (pc := 175) hC dX11_fewest_175 (by decide) ?_
      exact st_ireturn (pc := 176) hC dX11_fewest_176 trivial h
    · refine st_iload (pc := 177) hC dX11_fewest_177 rfl ?_
      refine st_istore (L2 := [rV 20 66, iV x1, lV x2, uV, iV x6, iV x5, iV x6, iV x7, uV, uV]) (pc := 179) hC dX11_fewest_179 (Nat.le_of_ble_eq_true rfl) rfl ?_
      refine st_iinc (L2 := [rV 20 66, iV x1, lV x2, uV, iV x6, iV (w32 (x5 + 1)), iV x6, iV x7, uV, uV]) (pc := 181) hC dX11_fewest_181 rfl (Nat.le_of_ble_eq_true rfl) rfl ?_
      refine st_goto (tg := 50) (pc := 184) hC dX11_fewest_184 (by decide) ?_
      exact st_fg (L2 := [rV 20 66, iV x1, lV x2, uV, iV x6, iV (w32 (x5 + 1)), uV, uV, uV, uV]) hC ⟨Or.inl rfl, Or.inl rfl, Or.inl rfl, Or.inl rfl, Or.inl rfl, Or.inl rfl, Or.inr rfl, Or.inr rfl, Or.inl rfl, Or.inl rfl, trivial⟩ h
theorem bX11_fewest_116 {C : Nat → List Vv → Sg → Rs → Sg → Prop} {X : Nat → List Vv → List Vv → Sg → Prop} {Xr : List Vv → Sg → Prop} {Xt : Nat → Sg → Prop} (hC : Clo C 11 cX11_fewest (some .int) X Xr Xt) {x1 x2 x4 x5 x6 x7 x8 : Int} {σ : Sg} (h : if x8 < (σ 67 3) then ((0 ≤ x7 ∧ x7 < 24000) ∧ (∃ v1 : Int, C MX11_changed [rV 20 66, iV (σ 75 (x7).toNat), iV x8] σ (.inl [iV v1]) σ ∧ (if v1 = (-1) then (X 116 [rV 20 66, iV x1, lV x2, uV, iV x4, iV x5, iV x6, iV x7, iV (w32 (x8 + 1)), uV] [] σ) else (∃ σ2 : Sg, C MX11_meets [rV 20 66, iV v1] σ (.inl []) σ2 ∧ (X 116 [rV 20 66, iV x1, lV x2, uV, iV x4, iV x5, iV x6, iV x7, iV (w32 (x8 + 1)), uV] [] σ2))))) else (X 106 [rV 20 66, iV x1, lV x2, uV, iV x4, iV x5, iV x6, iV (w32 (x7 + 1)), uV, uV] [] σ)) : X 116 [rV 20 66, iV x1, lV x2, uV, iV x4, iV x5, iV x6, iV x7, iV x8, uV] [] σ := by
  refine st_iload (pc := 116) hC dX11_fewest_116 rfl ?_
  refine st_aload_n (pc := 118) hC dX11_fewest_118 rfl (by decide) (by decide) ?_
  refine st_getf (ci := 10) (f := 0) (v := rV 1000181 67) (pc := 119) hC dX11_fewest_119 fl_11_9 rfl rfl ?_
  refine st_iconst (pc := 122) hC dX11_fewest_122 (by decide) ?_
  refine st_iald (n := 181) (pc := 123) hC dX11_fewest_123 (by decide) ⟨by decide, by decide⟩ ?_
  refine st_icmp_ge (tg := 160) (pc := 124) hC dX11_fewest_124 (by decide) (ite_im h (fun h => ?_) (fun h => ?_))
  · refine st_aload_n (pc := 127) hC dX11_fewest_127 rfl (by decide) (by decide) ?_
    refine st_aload_n (pc := 128) hC dX11_fewest_128 rfl (by decide) (by decide) ?_
    refine st_getf (ci := 10) (f := 21) (v := rV 1024000 75) (pc := 129) hC dX11_fewest_129 fl_11_40 rfl rfl ?_
    refine st_iload (pc := 132) hC dX11_fewest_132 rfl ?_
    obtain ⟨hb, h⟩ := h
    refine st_iald (n := 24000) (pc := 134) hC dX11_fewest_134 (by decide) hb ?_
    refine st_iload (pc := 135) hC dX11_fewest_135 rfl ?_
    obtain ⟨v1, hq, h⟩ := h
    refine st_invV (As := [iV (σ 75 (x7).toNat), iV x8]) (v := [iV v1]) (S := []) (pc := 137) hC dX11_fewest_137 cl_11_303 rfl rfl (Nat.le_of_ble_eq_true rfl) cr_X11_changed hq ?_
    refine st_istore (L2 := [rV 20 66, iV x1, lV x2, uV, iV x4, iV x5, iV x6, iV x7, iV x8, iV v1]) (pc := 140) hC dX11_fewest_140 (Nat.le_of_ble_eq_true rfl) rfl ?_
    refine st_iload (pc := 142) hC dX11_fewest_142 rfl ?_
    refine st_iconst (pc := 144) hC dX11_fewest_144 (by decide) ?_
    refine st_icmp_eq (tg := 154) (pc := 145) hC dX11_fewest_145 (by decide) (ite_im h (fun h => ?_) (fun h => ?_))
    · refine st_iinc (L2 := [rV 20 66, iV x1, lV x2, uV, iV x4, iV x5, iV x6, iV x7, iV (w32 (x8 + 1)), iV v1]) (pc := 154) hC dX11_fewest_154 rfl (Nat.le_of_ble_eq_true rfl) rfl ?_
      refine st_goto (tg := 116) (pc := 157) hC dX11_fewest_157 (by decide) ?_
      exact st_fg (L2 := [rV 20 66, iV x1, lV x2, uV, iV x4, iV x5, iV x6, iV x7, iV (w32 (x8 + 1)), uV]) hC ⟨Or.inl rfl, Or.inl rfl, Or.inl rfl, Or.inl rfl, Or.inl rfl, Or.inl rfl, Or.inl rfl, Or.inl rfl, Or.inl rfl, Or.inr rfl, trivial⟩ h
    · refine st_aload_n (pc := 148) hC dX11_fewest_148 rfl (by decide) (by decide) ?_
      refine st_iload (pc := 149) hC dX11_fewest_149 rfl ?_
      obtain ⟨σ2, hq, h⟩ := h
      refine st_invV (As := [iV v1]) (v := []) (S := []) (pc := 151) hC dX11_fewest_151 cl_11_306 rfl rfl (Nat.le_of_ble_eq_true rfl) cr_X11_meets hq ?_
      refine st_iinc (L2 := [rV 20 66, iV x1, lV x2, uV, iV x4, iV x5, iV x6, iV x7, iV (w32 (x8 + 1)), iV v1]) (pc := 154) hC dX11_fewest_154 rfl (Nat.le_of_ble_eq_true rfl) rfl ?_
      refine st_goto (tg := 116) (pc := 157) hC dX11_fewest_157 (by decide) ?_
      exact st_fg (L2 := [rV 20 66, iV x1, lV x2, uV, iV x4, iV x5, iV x6, iV x7, iV (w32 (x8 + 1)), uV]) hC ⟨Or.inl rfl, Or.inl rfl, Or.inl rfl, Or.inl rfl, Or.inl rfl, Or.inl rfl, Or.inl rfl, Or.inl rfl, Or.inl rfl, Or.inr rfl, trivial⟩ h
  · refine st_iinc (L2 := [rV 20 66, iV x1, lV x2, uV, iV x4, iV x5, iV x6, iV (w32 (x7 + 1)), iV x8, uV]) (pc := 160) hC dX11_fewest_160 rfl (Nat.le_of_ble_eq_true rfl) rfl ?_
    refine st_goto (tg := 106) (pc := 163) hC dX11_fewest_163 (by decide) ?_
    exact st_fg (L2 := [rV 20 66, iV x1, lV x2, uV, iV x4, iV x5, iV x6, iV (w32 (x7 + 1)), uV, uV]) hC ⟨Or.inl rfl, Or.inl rfl, Or.inl rfl, Or.inl rfl, Or.inl rfl, Or.inl rfl, Or.inl rfl, Or.inl rfl, Or.inr rfl, Or.inl rfl, trivial⟩ h
theorem bX11_between_0 {C : Nat → List Vv → Sg → Rs → Sg → Prop} {X : Nat → List Vv → List Vv → Sg → Prop} {Xr : List Vv → Sg → Prop} {Xt : Nat → Sg → Prop} (hC : Clo C 11 cX11_between (some .int) X Xr Xt) {x1 x2 x4 : Int} {σ : Sg} (h : ∃ v1 : Int, C MX11_isPerson [rV 20 66, lV x1] (upS σ 66 5 0) (.inl [iV v1]) (upS σ 66 5 0) ∧ (if v1 = 0 then (∃ v2 : Int, ∃ σ2 : Sg, C MX11_fails [rV 20 66, iV 1] (upS σ 66 5 0) (.inl [iV v2]) σ2 ∧ (Xr [iV v2] σ2)) else (∃ σ3 : Sg, C MX11_laysPrices [rV 20 66, iV x1] (upS σ 66 5 0) (.inl []) σ3 ∧ (X 31 [rV 20 66, iV x1, lV x2, uV, lV x4, uV, iV 0, iV 0] [] σ3)))) : X 0 [rV 20 66, iV x1, lV x2, uV, lV x4, uV, uV, uV] [] σ := by
  refine st_aload_n (pc := 0) hC dX11_between_0 rfl (by decide) (by decide) ?_
  refine st_iconst (pc := 1) hC dX11_between_1 (by decide) ?_
  refine st_putfI (ci := 10) (f := 5) (pc := 2) hC dX11_between_2 fl_11_64 rfl rfl ?_
  refine st_aload_n (pc := 5) hC dX11_between_5 rfl (by decide) (by decide) ?_
  refine st_iload_n (pc := 6) hC dX11_between_6 rfl ?_
  refine st_i2l (pc := 7) hC dX11_between_7 ?_
  obtain ⟨v1, hq, h⟩ := h
  refine st_invV (As := [lV x1]) (v := [iV v1]) (S := []) (pc := 8) hC dX11_between_8 cl_11_203 rfl rfl (Nat.le_of_ble_eq_true rfl) cr_X11_isPerson hq ?_
  refine st_if_ne (tg := 20) (pc := 11) hC dX11_between_11 (by decide) (ite_im h (fun h => ?_) (fun h => ?_))
  · refine st_aload_n (pc := 14) hC dX11_between_14 rfl (by decide) (by decide) ?_
    refine st_iconst (pc := 15) hC dX11_between_15 (by decide) ?_
    obtain ⟨v2, σ2, hq, h⟩ := h
    refine st_invV (As := [iV 1]) (v := [iV v2]) (S := []) (pc := 16) hC dX11_between_16 cl_11_178 rfl rfl (Nat.le_of_ble_eq_true rfl) cr_X11_fails hq ?_
    exact st_ireturn (pc := 19) hC dX11_between_19 trivial h
  · refine st_aload_n (pc := 20) hC dX11_between_20 rfl (by decide) (by decide) ?_
    refine st_iload_n (pc := 21) hC dX11_between_21 rfl ?_
    obtain ⟨σ3, hq, h⟩ := h
    refine st_invV (As := [iV x1]) (v := []) (S := []) (pc := 22) hC dX11_between_22 cl_11_283 rfl rfl (Nat.le_of_ble_eq_true rfl) cr_X11_laysPrices hq ?_
    refine st_iconst (pc := 25) hC dX11_between_25 (by decide) ?_
    refine st_istore (L2 := [rV 20 66, iV x1, lV x2, uV, lV x4, uV, iV 0, uV]) (pc := 26) hC dX11_between_26 (Nat.le_of_ble_eq_true rfl) rfl ?_
    refine st_iconst (pc := 28) hC dX11_between_28 (by decide) ?_
    refine st_istore (L2 := [rV 20 66, iV x1, lV x2, uV, lV x4, uV, iV 0, iV 0]) (pc := 29) hC dX11_between_29 (Nat.le_of_ble_eq_true rfl) rfl ?_
    exact h
theorem bX11_between_31 {C : Nat → List Vv → Sg → Rs → Sg → Prop} {X : Nat → List Vv → List Vv → Sg → Prop} {Xr : List Vv → Sg → Prop} {Xt : Nat → Sg → Prop} (hC : Clo C 11 cX11_between (some .int) X Xr Xt) {x1 x2 x4 x6 x7 : Int} {σ : Sg} (h : if x7 < (σ 66 20) then ((0 ≤ x7 ∧ x7 < 512) ∧ (∃ v1 : Int, C MX11_within [lV (σ 74 (x7).toNat), lV x2, lV x4] σ (.inl [iV v1]) σ ∧ (if v1 = 0 then (X 31 [rV 20 66, iV x1, lV x2, uV, lV x4, uV, iV (w32 (x6 + 0)), iV (w32 (x7 + 1))] [] σ) else (X 31 [rV 20 66, iV x1, lV x2, uV, lV x4, uV, iV (w32 (x6 + 1)), iV (w32 (x7 + 1))] [] σ)))) else (Xr [iV x6] σ)) : X 31 [rV 20 66, iV x1, lV x2, uV, lV x4, uV, iV x6, iV x7] [] σ := by
  refine st_iload (pc := 31) hC dX11_between_31 rfl ?_
  refine st_aload_n (pc := 33) hC dX11_between_33 rfl (by decide) (by decide) ?_
  refine st_getf (ci := 10) (f := 20) (v := iV (σ 66 20)) (pc := 34) hC dX11_between_34 fl_11_280 rfl rfl ?_
  refine st_icmp_ge (tg := 72) (pc := 37) hC dX11_between_37 (by decide) (ite_im h (fun h => ?_) (fun h => ?_))
  · refine st_iload (pc := 40) hC dX11_between_40 rfl ?_
    refine st_aload_n (pc := 42) hC dX11_between_42 rfl (by decide) (by decide) ?_
    refine st_getf (ci := 10) (f := 19) (v := rV 2000512 74) (pc := 43) hC dX11_between_43 fl_11_36 rfl rfl ?_
    refine st_iload (pc := 46) hC dX11_between_46 rfl ?_
    obtain ⟨hb, h⟩ := h
    refine st_lald (n := 512) (pc := 48) hC dX11_between_48 (by decide) hb ?_
    refine st_lload_n (pc := 49) hC dX11_between_49 rfl ?_
    refine st_lload (pc := 50) hC dX11_between_50 rfl ?_
    obtain ⟨v1, hq, h⟩ := h
    refine st_invS (As := [lV (σ 74 (x7).toNat), lV x2, lV x4]) (v := [iV v1]) (S := [iV x6]) (pc := 52) hC dX11_between_52 cl_11_133 rfl rfl (Nat.le_of_ble_eq_true rfl) hq ?_
    refine st_if_eq (tg := 62) (pc := 55) hC dX11_between_55 (by decide) (ite_im h (fun h => ?_) (fun h => ?_))
    · refine st_iconst (pc := 62) hC dX11_between_62 (by decide) ?_
      refine st_iadd (pc := 63) hC dX11_between_63 ?_
      refine st_istore (L2 := [rV 20 66, iV x1, lV x2, uV, lV x4, uV, iV (w32 (x6 + 0)), iV x7]) (pc := 64) hC dX11_between_64 (Nat.le_of_ble_eq_true rfl) rfl ?_
      refine st_iinc (L2 := [rV 20 66, iV x1, lV x2, uV, lV x4, uV, iV (w32 (x6 + 0)), iV (w32 (x7 + 1))]) (pc := 66) hC dX11_between_66 rfl (Nat.le_of_ble_eq_true rfl) rfl ?_
      refine st_goto (tg := 31) (pc := 69) hC dX11_between_69 (by decide) ?_
      exact h
    · refine st_iconst (pc := 58) hC dX11_between_58 (by decide) ?_
      refine st_goto (tg := 63) (pc := 59) hC dX11_between_59 (by decide) ?_
      refine st_iadd (pc := 63) hC dX11_between_63 ?_
      refine st_istore (L2 := [rV 20 66, iV x1, lV x2, uV, lV x4, uV, iV (w32 (x6 + 1)), iV x7]) (pc := 64) hC dX11_between_64 (Nat.le_of_ble_eq_true rfl) rfl ?_
      refine st_iinc (L2 := [rV 20 66, iV x1, lV x2, uV, lV x4, uV, iV (w32 (x6 + 1)), iV (w32 (x7 + 1))]) (pc := 66) hC dX11_between_66 rfl (Nat.le_of_ble_eq_true rfl) rfl ?_
      refine st_goto (tg := 31) (pc := 69) hC dX11_between_69 (by decide) ?_
      exact h
  · refine st_iload (pc := 72) hC dX11_between_72 rfl ?_
    exact st_ireturn (pc := 74) hC dX11_between_74 trivial h
theorem bX11_dear_0 {C : Nat → List Vv → Sg → Rs → Sg → Prop} {X : Nat → List Vv → List Vv → Sg → Prop} {Xr : List Vv → Sg → Prop} {Xt : Nat → Sg → Prop} (hC : Clo C 11 cX11_dear (some .int) X Xr Xt) {x1 x2 : Int} {σ : Sg} (h : ∃ v1 : Int, C MX11_isPerson [rV 20 66, lV x1] σ (.inl [iV v1]) σ ∧ (if v1 = 0 then (if (0 : Int) < ((upS σ 66 5 1) 66 5) then (Xr [iV 0] (upS σ 66 5 1)) else (X 57 [rV 20 66, iV x1, iV x2, iV 1, iV 0] [] (upS σ 66 5 1))) else (∃ v2 : Int, C MX11_within [lV x2, lV 2, lV 97] σ (.inl [iV v2]) σ ∧ (if v2 = 0 then (if (0 : Int) < ((upS σ 66 5 2) 66 5) then (Xr [iV 0] (upS σ 66 5 2)) else (X 57 [rV 20 66, iV x1, iV x2, iV 1, iV 0] [] (upS σ 66 5 2))) else (∃ v3 : Int, C MX11_isPrime [iV x2] σ (.inl [iV v3]) σ ∧ (if v3 = 0 then (if (0 : Int) < ((upS σ 66 5 2) 66 5) then (Xr [iV 0] (upS σ 66 5 2)) else (X 57 [rV 20 66, iV x1, iV x2, iV 1, iV 0] [] (upS σ 66 5 2))) else (if (0 : Int) < ((upS σ 66 5 0) 66 5) then (Xr [iV 0] (upS σ 66 5 0)) else (X 57 [rV 20 66, iV x1, iV x2, iV 1, iV 0] [] (upS σ 66 5 0))))))))) : X 0 [rV 20 66, iV x1, iV x2, uV, uV] [] σ := by
  refine st_aload_n (pc := 0) hC dX11_dear_0 rfl (by decide) (by decide) ?_
  refine st_aload_n (pc := 1) hC dX11_dear_1 rfl (by decide) (by decide) ?_
  refine st_iload_n (pc := 2) hC dX11_dear_2 rfl ?_
  refine st_i2l (pc := 3) hC dX11_dear_3 ?_
  obtain ⟨v1, hq, h⟩ := h
  refine st_invV (As := [lV x1]) (v := [iV v1]) (S := [rV 20 66]) (pc := 4) hC dX11_dear_4 cl_11_203 rfl rfl (Nat.le_of_ble_eq_true rfl) cr_X11_isPerson hq ?_
  refine st_if_ne (tg := 14) (pc := 7) hC dX11_dear_7 (by decide) (ite_im h (fun h => ?_) (fun h => ?_))
  · refine st_iconst (pc := 10) hC dX11_dear_10 (by decide) ?_
    refine st_goto (tg := 40) (pc := 11) hC dX11_dear_11 (by decide) ?_
    refine st_putfI (ci := 10) (f := 5) (pc := 40) hC dX11_dear_40 fl_11_64 rfl rfl ?_
    refine st_aload_n (pc := 43) hC dX11_dear_43 rfl (by decide) (by decide) ?_
    refine st_getf (ci := 10) (f := 5) (v := iV ((upS σ 66 5 1) 66 5)) (pc := 44) hC dX11_dear_44 fl_11_64 rfl rfl ?_
    refine st_if_le (tg := 52) (pc := 47) hC dX11_dear_47 (by decide) (ite_im h (fun h => ?_) (fun h => ?_))
    · refine st_iconst (pc := 50) hC dX11_dear_50 (by decide) ?_
      exact st_ireturn (pc := 51) hC dX11_dear_51 trivial h
    · refine st_iconst (pc := 52) hC dX11_dear_52 (by decide) ?_
      refine st_istore_n (L2 := [rV 20 66, iV x1, iV x2, iV 1, uV]) (pc := 53) hC dX11_dear_53 (Nat.le_of_ble_eq_true rfl) rfl ?_
      refine st_iconst (pc := 54) hC dX11_dear_54 (by decide) ?_
      refine st_istore (L2 := [rV 20 66, iV x1, iV x2, iV 1, iV 0]) (pc := 55) hC dX11_dear_55 (Nat.le_of_ble_eq_true rfl) rfl ?_
      exact h
  · refine st_iload_n (pc := 14) hC dX11_dear_14 rfl ?_
    refine st_i2l (pc := 15) hC dX11_dear_15 ?_
    refine st_ldc2 (pc := 16) hC dX11_dear_16 rfl ?_
    refine st_ldc2 (pc := 19) hC dX11_dear_19 rfl ?_
    obtain ⟨v2, hq, h⟩ := h
    refine st_invS (As := [lV x2, lV 2, lV 97]) (v := [iV v2]) (S := [rV 20 66]) (pc := 22) hC dX11_dear_22 cl_11_133 rfl rfl (Nat.le_of_ble_eq_true rfl) hq ?_
    refine st_if_eq (tg := 39) (pc := 25) hC dX11_dear_25 (by decide) (ite_im h (fun h => ?_) (fun h => ?_))
    · refine st_iconst (pc := 39) hC dX11_dear_39 (by decide) ?_
      refine st_putfI (ci := 10) (f := 5) (pc := 40) hC dX11_dear_40 fl_11_64 rfl rfl ?_
      refine st_aload_n (pc := 43) hC dX11_dear_43 rfl (by decide) (by decide) ?_
      refine st_getf (ci := 10) (f := 5) (v := iV ((upS σ 66 5 2) 66 5)) (pc := 44) hC dX11_dear_44 fl_11_64 rfl rfl ?_
      refine st_if_le (tg := 52) (pc := 47) hC dX11_dear_47 (by decide) (ite_im h (fun h => ?_) (fun h => ?_))
      · refine st_iconst (pc := 50) hC dX11_dear_50 (by decide) ?_
        exact st_ireturn (pc := 51) hC dX11_dear_51 trivial h
      · refine st_iconst (pc := 52) hC dX11_dear_52 (by decide) ?_
        refine st_istore_n (L2 := [rV 20 66, iV x1, iV x2, iV 1, uV]) (pc := 53) hC dX11_dear_53 (Nat.le_of_ble_eq_true rfl) rfl ?_
        refine st_iconst (pc := 54) hC dX11_dear_54 (by decide) ?_
        refine st_istore (L2 := [rV 20 66, iV x1, iV x2, iV 1, iV 0]) (pc := 55) hC dX11_dear_55 (Nat.le_of_ble_eq_true rfl) rfl ?_
        exact h
    · refine st_iload_n (pc := 28) hC dX11_dear_28 rfl ?_
      obtain ⟨v3, hq, h⟩ := h
      refine st_invS (As := [iV x2]) (v := [iV v3]) (S := [rV 20 66]) (pc := 29) hC dX11_dear_29 cl_11_137 rfl rfl (Nat.le_of_ble_eq_true rfl) hq ?_
      refine st_if_eq (tg := 39) (pc := 32) hC dX11_dear_32 (by decide) (ite_im h (fun h => ?_) (fun h => ?_))
      · refine st_iconst (pc := 39) hC dX11_dear_39 (by decide) ?_
        refine st_putfI (ci := 10) (f := 5) (pc := 40) hC dX11_dear_40 fl_11_64 rfl rfl ?_
        refine st_aload_n (pc := 43) hC dX11_dear_43 rfl (by decide) (by decide) ?_
        refine st_getf (ci := 10) (f := 5) (v := iV ((upS σ 66 5 2) 66 5)) (pc := 44) hC dX11_dear_44 fl_11_64 rfl rfl ?_
        refine st_if_le (tg := 52) (pc := 47) hC dX11_dear_47 (by decide) (ite_im h (fun h => ?_) (fun h => ?_))
        · refine st_iconst (pc := 50) hC dX11_dear_50 (by decide) ?_
          exact st_ireturn (pc := 51) hC dX11_dear_51 trivial h
        · refine st_iconst (pc := 52) hC dX11_dear_52 (by decide) ?_
          refine st_istore_n (L2 := [rV 20 66, iV x1, iV x2, iV 1, uV]) (pc := 53) hC dX11_dear_53 (Nat.le_of_ble_eq_true rfl) rfl ?_
          refine st_iconst (pc := 54) hC dX11_dear_54 (by decide) ?_
          refine st_istore (L2 := [rV 20 66, iV x1, iV x2, iV 1, iV 0]) (pc := 55) hC dX11_dear_55 (Nat.le_of_ble_eq_true rfl) rfl ?_
          exact h
      · refine st_iconst (pc := 35) hC dX11_dear_35 (by decide) ?_
        refine st_goto (tg := 40) (pc := 36) hC dX11_dear_36 (by decide) ?_
        refine st_putfI (ci := 10) (f := 5) (pc := 40) hC dX11_dear_40 fl_11_64 rfl rfl ?_
        refine st_aload_n (pc := 43) hC dX11_dear_43 rfl (by decide) (by decide) ?_
        refine st_getf (ci := 10) (f := 5) (v := iV ((upS σ 66 5 0) 66 5)) (pc := 44) hC dX11_dear_44 fl_11_64 rfl rfl ?_
        refine st_if_le (tg := 52) (pc := 47) hC dX11_dear_47 (by decide) (ite_im h (fun h => ?_) (fun h => ?_))
        · refine st_iconst (pc := 50) hC dX11_dear_50 (by decide) ?_
          exact st_ireturn (pc := 51) hC dX11_dear_51 trivial h
        · refine st_iconst (pc := 52) hC dX11_dear_52 (by decide) ?_
          refine st_istore_n (L2 := [rV 20 66, iV x1, iV x2, iV 1, uV]) (pc := 53) hC dX11_dear_53 (Nat.le_of_ble_eq_true rfl) rfl ?_
          refine st_iconst (pc := 54) hC dX11_dear_54 (by decide) ?_
          refine st_istore (L2 := [rV 20 66, iV x1, iV x2, iV 1, iV 0]) (pc := 55) hC dX11_dear_55 (Nat.le_of_ble_eq_true rfl) rfl ?_
          exact h
theorem bX11_dear_57 {C : Nat → List Vv → Sg → Rs → Sg → Prop} {X : Nat → List Vv → List Vv → Sg → Prop} {Xr : List Vv → Sg → Prop} {Xt : Nat → Sg → Prop} (hC : Clo C 11 cX11_dear (some .int) X Xr Xt) {x1 x2 x3 x4 : Int} {σ : Sg} (h : ∃ v1 : Int, C MX11_coins [rV 20 66] σ (.inl [iV v1]) σ ∧ (if x4 < v1 then (∃ v2 : Int, C MX11_prime [rV 20 66, iV x4] σ (.inl [iV v2]) σ ∧ (if x2 < v2 then (X 57 [rV 20 66, iV x1, iV x2, iV (w32 (x3 * 1)), iV (w32 (x4 + 1))] [] σ) else (∃ v3 : Int, C MX11_of [rV 20 66, iV x1, iV x4] σ (.inl [iV v3]) σ ∧ (X 57 [rV 20 66, iV x1, iV x2, iV (w32 (x3 * (w32 (v3 + 1)))), iV (w32 (x4 + 1))] [] σ)))) else (Xr [iV x3] σ))) : X 57 [rV 20 66, iV x1, iV x2, iV x3, iV x4] [] σ := by
  refine st_iload (pc := 57) hC dX11_dear_57 rfl ?_
  refine st_aload_n (pc := 59) hC dX11_dear_59 rfl (by decide) (by decide) ?_
  obtain ⟨v1, hq, h⟩ := h
  refine st_invV (As := []) (v := [iV v1]) (S := [iV x4]) (pc := 60) hC dX11_dear_60 cl_11_193 rfl rfl (Nat.le_of_ble_eq_true rfl) cr_X11_coins hq ?_
  refine st_icmp_ge (tg := 98) (pc := 63) hC dX11_dear_63 (by decide) (ite_im h (fun h => ?_) (fun h => ?_))
  · refine st_iload_n (pc := 66) hC dX11_dear_66 rfl ?_
    refine st_aload_n (pc := 67) hC dX11_dear_67 rfl (by decide) (by decide) ?_
    refine st_iload (pc := 68) hC dX11_dear_68 rfl ?_
    obtain ⟨v2, hq, h⟩ := h
    refine st_invV (As := [iV x4]) (v := [iV v2]) (S := [iV x3]) (pc := 70) hC dX11_dear_70 cl_11_200 rfl rfl (Nat.le_of_ble_eq_true rfl) cr_X11_prime hq ?_
    refine st_iload_n (pc := 73) hC dX11_dear_73 rfl ?_
    refine st_icmp_gt (tg := 89) (pc := 74) hC dX11_dear_74 (by decide) (ite_im h (fun h => ?_) (fun h => ?_))
    · refine st_iconst (pc := 89) hC dX11_dear_89 (by decide) ?_
      refine st_imul (pc := 90) hC dX11_dear_90 ?_
      refine st_istore_n (L2 := [rV 20 66, iV x1, iV x2, iV (w32 (x3 * 1)), iV x4]) (pc := 91) hC dX11_dear_91 (Nat.le_of_ble_eq_true rfl) rfl ?_
      refine st_iinc (L2 := [rV 20 66, iV x1, iV x2, iV (w32 (x3 * 1)), iV (w32 (x4 + 1))]) (pc := 92) hC dX11_dear_92 rfl (Nat.le_of_ble_eq_true rfl) rfl ?_
      refine st_goto (tg := 57) (pc := 95) hC dX11_dear_95 (by decide) ?_
      exact h
    · refine st_aload_n (pc := 77) hC dX11_dear_77 rfl (by decide) (by decide) ?_
      refine st_iload_n (pc := 78) hC dX11_dear_78 rfl ?_
      refine st_iload (pc := 79) hC dX11_dear_79 rfl ?_
      obtain ⟨v3, hq, h⟩ := h
      refine st_invV (As := [iV x1, iV x4]) (v := [iV v3]) (S := [iV x3]) (pc := 81) hC dX11_dear_81 cl_11_196 rfl rfl (Nat.le_of_ble_eq_true rfl) cr_X11_of hq ?_
      refine st_iconst (pc := 84) hC dX11_dear_84 (by decide) ?_
      refine st_iadd (pc := 85) hC dX11_dear_85 ?_
      refine st_goto (tg := 90) (pc := 86) hC dX11_dear_86 (by decide) ?_
      refine st_imul (pc := 90) hC dX11_dear_90 ?_
      refine st_istore_n (L2 := [rV 20 66, iV x1, iV x2, iV (w32 (x3 * (w32 (v3 + 1)))), iV x4]) (pc := 91) hC dX11_dear_91 (Nat.le_of_ble_eq_true rfl) rfl ?_
      refine st_iinc (L2 := [rV 20 66, iV x1, iV x2, iV (w32 (x3 * (w32 (v3 + 1)))), iV (w32 (x4 + 1))]) (pc := 92) hC dX11_dear_92 rfl (Nat.le_of_ble_eq_true rfl) rfl ?_
      refine st_goto (tg := 57) (pc := 95) hC dX11_dear_95 (by decide) ?_
      exact h
  · refine st_iload_n (pc := 98) hC dX11_dear_98 rfl ?_
    exact st_ireturn (pc := 99) hC dX11_dear_99 trivial h
theorem bX11_sideOf_0 {C : Nat → List Vv → Sg → Rs → Sg → Prop} {X : Nat → List Vv → List Vv → Sg → Prop} {Xr : List Vv → Sg → Prop} {Xt : Nat → Sg → Prop} (hC : Clo C 11 cX11_sideOf (some .long) X Xr Xt) {x1 x2 : Int} {σ : Sg} (h : X 5 [rV 20 66, iV x1, iV x2, lV 1, uV, iV 0, uV] [] σ) : X 0 [rV 20 66, iV x1, iV x2, uV, uV, uV, uV] [] σ := by
  refine st_lconst1 (pc := 0) hC dX11_sideOf_0 ?_
  refine st_lstore_n (L2 := [rV 20 66, iV x1, iV x2, lV 1, uV, uV, uV]) (pc := 1) hC dX11_sideOf_1 (Nat.le_of_ble_eq_true rfl) rfl ?_
  refine st_iconst (pc := 2) hC dX11_sideOf_2 (by decide) ?_
  refine st_istore (L2 := [rV 20 66, iV x1, iV x2, lV 1, uV, iV 0, uV]) (pc := 3) hC dX11_sideOf_3 (Nat.le_of_ble_eq_true rfl) rfl ?_
  exact h
theorem bX11_sideOf_5 {C : Nat → List Vv → Sg → Rs → Sg → Prop} {X : Nat → List Vv → List Vv → Sg → Prop} {Xr : List Vv → Sg → Prop} {Xt : Nat → Sg → Prop} (hC : Clo C 11 cX11_sideOf (some .long) X Xr Xt) {x1 x2 x3 x5 : Int} {σ : Sg} (h : ∃ v1 : Int, C MX11_coins [rV 20 66] σ (.inl [iV v1]) σ ∧ (if x5 < v1 then (X 17 [rV 20 66, iV x1, iV x2, lV x3, uV, iV x5, iV 0] [] σ) else (Xr [lV x3] σ))) : X 5 [rV 20 66, iV x1, iV x2, lV x3, uV, iV x5, uV] [] σ := by
  refine st_iload (pc := 5) hC dX11_sideOf_5 rfl ?_
  refine st_aload_n (pc := 7) hC dX11_sideOf_7 rfl (by decide) (by decide) ?_
  obtain ⟨v1, hq, h⟩ := h
  refine st_invV (As := []) (v := [iV v1]) (S := [iV x5]) (pc := 8) hC dX11_sideOf_8 cl_11_193 rfl rfl (Nat.le_of_ble_eq_true rfl) cr_X11_coins hq ?_
  refine st_icmp_ge (tg := 52) (pc := 11) hC dX11_sideOf_11 (by decide) (ite_im h (fun h => ?_) (fun h => ?_))
  · refine st_iconst (pc := 14) hC dX11_sideOf_14 (by decide) ?_
    refine st_istore (L2 := [rV 20 66, iV x1, iV x2, lV x3, uV, iV x5, iV 0]) (pc := 15) hC dX11_sideOf_15 (Nat.le_of_ble_eq_true rfl) rfl ?_
    exact h
  · refine st_lload_n (pc := 52) hC dX11_sideOf_52 rfl ?_
    exact st_lreturn (pc := 53) hC dX11_sideOf_53 h
theorem bX11_sideOf_17 {C : Nat → List Vv → Sg → Rs → Sg → Prop} {X : Nat → List Vv → List Vv → Sg → Prop} {Xr : List Vv → Sg → Prop} {Xt : Nat → Sg → Prop} (hC : Clo C 11 cX11_sideOf (some .long) X Xr Xt) {x1 x2 x3 x5 x6 : Int} {σ : Sg} (h : ∃ v1 : Int, C MX11_side [rV 20 66, iV x1, iV x2, iV x5] σ (.inl [iV v1]) σ ∧ (if x6 < v1 then (∃ v2 : Int, C MX11_prime [rV 20 66, iV x5] σ (.inl [iV v2]) σ ∧ (X 17 [rV 20 66, iV x1, iV x2, lV (w64 (x3 * v2)), uV, iV x5, iV (w32 (x6 + 1))] [] σ)) else (X 5 [rV 20 66, iV x1, iV x2, lV x3, uV, iV (w32 (x5 + 1)), uV] [] σ))) : X 17 [rV 20 66, iV x1, iV x2, lV x3, uV, iV x5, iV x6] [] σ := by
  refine st_iload (pc := 17) hC dX11_sideOf_17 rfl ?_
  refine st_aload_n (pc := 19) hC dX11_sideOf_19 rfl (by decide) (by decide) ?_
  refine st_iload_n (pc := 20) hC dX11_sideOf_20 rfl ?_
  refine st_iload_n (pc := 21) hC dX11_sideOf_21 rfl ?_
  refine st_iload (pc := 22) hC dX11_sideOf_22 rfl ?_
  obtain ⟨v1, hq, h⟩ := h
  refine st_invV (As := [iV x1, iV x2, iV x5]) (v := [iV v1]) (S := [iV x6]) (pc := 24) hC dX11_sideOf_24 cl_11_240 rfl rfl (Nat.le_of_ble_eq_true rfl) cr_X11_side hq ?_
  refine st_icmp_ge (tg := 46) (pc := 27) hC dX11_sideOf_27 (by decide) (ite_im h (fun h => ?_) (fun h => ?_))
  · refine st_lload_n (pc := 30) hC dX11_sideOf_30 rfl ?_
    refine st_aload_n (pc := 31) hC dX11_sideOf_31 rfl (by decide) (by decide) ?_
    refine st_iload (pc := 32) hC dX11_sideOf_32 rfl ?_
    obtain ⟨v2, hq, h⟩ := h
    refine st_invV (As := [iV x5]) (v := [iV v2]) (S := [lV x3]) (pc := 34) hC dX11_sideOf_34 cl_11_200 rfl rfl (Nat.le_of_ble_eq_true rfl) cr_X11_prime hq ?_
    refine st_i2l (pc := 37) hC dX11_sideOf_37 ?_
    refine st_lmul (pc := 38) hC dX11_sideOf_38 ?_
    refine st_lstore_n (L2 := [rV 20 66, iV x1, iV x2, lV (w64 (x3 * v2)), uV, iV x5, iV x6]) (pc := 39) hC dX11_sideOf_39 (Nat.le_of_ble_eq_true rfl) rfl ?_
    refine st_iinc (L2 := [rV 20 66, iV x1, iV x2, lV (w64 (x3 * v2)), uV, iV x5, iV (w32 (x6 + 1))]) (pc := 40) hC dX11_sideOf_40 rfl (Nat.le_of_ble_eq_true rfl) rfl ?_
    refine st_goto (tg := 17) (pc := 43) hC dX11_sideOf_43 (by decide) ?_
    exact h
  · refine st_iinc (L2 := [rV 20 66, iV x1, iV x2, lV x3, uV, iV (w32 (x5 + 1)), iV x6]) (pc := 46) hC dX11_sideOf_46 rfl (Nat.le_of_ble_eq_true rfl) rfl ?_
    refine st_goto (tg := 5) (pc := 49) hC dX11_sideOf_49 (by decide) ?_
    exact st_fg (L2 := [rV 20 66, iV x1, iV x2, lV x3, uV, iV (w32 (x5 + 1)), uV]) hC ⟨Or.inl rfl, Or.inl rfl, Or.inl rfl, Or.inl rfl, Or.inl rfl, Or.inl rfl, Or.inr rfl, trivial⟩ h
theorem bX11_gainer_0 {C : Nat → List Vv → Sg → Rs → Sg → Prop} {X : Nat → List Vv → List Vv → Sg → Prop} {Xr : List Vv → Sg → Prop} {Xt : Nat → Sg → Prop} (hC : Clo C 11 cX11_gainer (some .int) X Xr Xt) {σ : Sg} (h : X 9 [rV 20 66, iV (-1), iV 0] [] (upS σ 66 5 0)) : X 0 [rV 20 66, uV, uV] [] σ := by
  refine st_aload_n (pc := 0) hC dX11_gainer_0 rfl (by decide) (by decide) ?_
  refine st_iconst (pc := 1) hC dX11_gainer_1 (by decide) ?_
  refine st_putfI (ci := 10) (f := 5) (pc := 2) hC dX11_gainer_2 fl_11_64 rfl rfl ?_
  refine st_iconst (pc := 5) hC dX11_gainer_5 (by decide) ?_
  refine st_istore_n (L2 := [rV 20 66, iV (-1), uV]) (pc := 6) hC dX11_gainer_6 (Nat.le_of_ble_eq_true rfl) rfl ?_
  refine st_iconst (pc := 7) hC dX11_gainer_7 (by decide) ?_
  refine st_istore_n (L2 := [rV 20 66, iV (-1), iV 0]) (pc := 8) hC dX11_gainer_8 (Nat.le_of_ble_eq_true rfl) rfl ?_
  exact h
theorem bX11_gainer_9 {C : Nat → List Vv → Sg → Rs → Sg → Prop} {X : Nat → List Vv → List Vv → Sg → Prop} {Xr : List Vv → Sg → Prop} {Xt : Nat → Sg → Prop} (hC : Clo C 11 cX11_gainer (some .int) X Xr Xt) {x1 x2 : Int} {σ : Sg} (h : if x2 < (σ 67 3) then (if x1 = (-1) then (X 9 [rV 20 66, iV x2, iV (w32 (x2 + 1))] [] σ) else (∃ v1 : Int, C MX11_sideOf [rV 20 66, iV x2, iV 1] σ (.inl [lV v1]) σ ∧ (∃ v2 : Int, C MX11_sideOf [rV 20 66, iV x1, iV 0] σ (.inl [lV v2]) σ ∧ (∃ v3 : Int, C MX11_sideOf [rV 20 66, iV x1, iV 1] σ (.inl [lV v3]) σ ∧ (∃ v4 : Int, C MX11_sideOf [rV 20 66, iV x2, iV 0] σ (.inl [lV v4]) σ ∧ (if (w64 (v3 * v4)) < (w64 (v1 * v2)) then (X 9 [rV 20 66, iV x2, iV (w32 (x2 + 1))] [] σ) else (X 9 [rV 20 66, iV x1, iV (w32 (x2 + 1))] [] σ))))))) else (Xr [iV x1] σ)) : X 9 [rV 20 66, iV x1, iV x2] [] σ := by
  refine st_iload_n (pc := 9) hC dX11_gainer_9 rfl ?_
  refine st_aload_n (pc := 10) hC dX11_gainer_10 rfl (by decide) (by decide) ?_
  refine st_getf (ci := 10) (f := 0) (v := rV 1000181 67) (pc := 11) hC dX11_gainer_11 fl_11_9 rfl rfl ?_
  refine st_iconst (pc := 14) hC dX11_gainer_14 (by decide) ?_
  refine st_iald (n := 181) (pc := 15) hC dX11_gainer_15 (by decide) ⟨by decide, by decide⟩ ?_
  refine st_icmp_ge (tg := 62) (pc := 16) hC dX11_gainer_16 (by decide) (ite_im h (fun h => ?_) (fun h => ?_))
  · refine st_iload_n (pc := 19) hC dX11_gainer_19 rfl ?_
    refine st_iconst (pc := 20) hC dX11_gainer_20 (by decide) ?_
    refine st_icmp_eq (tg := 54) (pc := 21) hC dX11_gainer_21 (by decide) (ite_im h (fun h => ?_) (fun h => ?_))
    · refine st_iload_n (pc := 54) hC dX11_gainer_54 rfl ?_
      refine st_istore_n (L2 := [rV 20 66, iV x2, iV x2]) (pc := 55) hC dX11_gainer_55 (Nat.le_of_ble_eq_true rfl) rfl ?_
      refine st_iinc (L2 := [rV 20 66, iV x2, iV (w32 (x2 + 1))]) (pc := 56) hC dX11_gainer_56 rfl (Nat.le_of_ble_eq_true rfl) rfl ?_
      refine st_goto (tg := 9) (pc := 59) hC dX11_gainer_59 (by decide) ?_
      exact h
    · refine st_aload_n (pc := 24) hC dX11_gainer_24 rfl (by decide) (by decide) ?_
      refine st_iload_n (pc := 25) hC dX11_gainer_25 rfl ?_
      refine st_iconst (pc := 26) hC dX11_gainer_26 (by decide) ?_
      obtain ⟨v1, hq, h⟩ := h
      refine st_invV (As := [iV x2, iV 1]) (v := [lV v1]) (S := []) (pc := 27) hC dX11_gainer_27 cl_11_309 rfl rfl (Nat.le_of_ble_eq_true rfl) cr_X11_sideOf hq ?_
      refine st_aload_n (pc := 30) hC dX11_gainer_30 rfl (by decide) (by decide) ?_
      refine st_iload_n (pc := 31) hC dX11_gainer_31 rfl ?_
      refine st_iconst (pc := 32) hC dX11_gainer_32 (by decide) ?_
      obtain ⟨v2, hq, h⟩ := h
      refine st_invV (As := [iV x1, iV 0]) (v := [lV v2]) (S := [lV v1]) (pc := 33) hC dX11_gainer_33 cl_11_309 rfl rfl (Nat.le_of_ble_eq_true rfl) cr_X11_sideOf hq ?_
      refine st_lmul (pc := 36) hC dX11_gainer_36 ?_
      refine st_aload_n (pc := 37) hC dX11_gainer_37 rfl (by decide) (by decide) ?_
      refine st_iload_n (pc := 38) hC dX11_gainer_38 rfl ?_
      refine st_iconst (pc := 39) hC dX11_gainer_39 (by decide) ?_
      obtain ⟨v3, hq, h⟩ := h
      refine st_invV (As := [iV x1, iV 1]) (v := [lV v3]) (S := [lV (w64 (v1 * v2))]) (pc := 40) hC dX11_gainer_40 cl_11_309 rfl rfl (Nat.le_of_ble_eq_true rfl) cr_X11_sideOf hq ?_
      refine st_aload_n (pc := 43) hC dX11_gainer_43 rfl (by decide) (by decide) ?_
      refine st_iload_n (pc := 44) hC dX11_gainer_44 rfl ?_
      refine st_iconst (pc := 45) hC dX11_gainer_45 (by decide) ?_
      obtain ⟨v4, hq, h⟩ := h
      refine st_invV (As := [iV x2, iV 0]) (v := [lV v4]) (S := [lV v3, lV (w64 (v1 * v2))]) (pc := 46) hC dX11_gainer_46 cl_11_309 rfl rfl (Nat.le_of_ble_eq_true rfl) cr_X11_sideOf hq ?_
      refine st_lmul (pc := 49) hC dX11_gainer_49 ?_
      refine st_lcmp_le (tg := 56) (pc := 50) hC dX11_gainer_50 dX11_gainer_51 (by decide) (ite_im h (fun h => ?_) (fun h => ?_))
      · refine st_iload_n (pc := 54) hC dX11_gainer_54 rfl ?_
        refine st_istore_n (L2 := [rV 20 66, iV x2, iV x2]) (pc := 55) hC dX11_gainer_55 (Nat.le_of_ble_eq_true rfl) rfl ?_
        refine st_iinc (L2 := [rV 20 66, iV x2, iV (w32 (x2 + 1))]) (pc := 56) hC dX11_gainer_56 rfl (Nat.le_of_ble_eq_true rfl) rfl ?_
        refine st_goto (tg := 9) (pc := 59) hC dX11_gainer_59 (by decide) ?_
        exact h
      · refine st_iinc (L2 := [rV 20 66, iV x1, iV (w32 (x2 + 1))]) (pc := 56) hC dX11_gainer_56 rfl (Nat.le_of_ble_eq_true rfl) rfl ?_
        refine st_goto (tg := 9) (pc := 59) hC dX11_gainer_59 (by decide) ?_
        exact h
  · refine st_iload_n (pc := 62) hC dX11_gainer_62 rfl ?_
    exact st_ireturn (pc := 63) hC dX11_gainer_63 trivial h
theorem bX11_worthBy_0 {C : Nat → List Vv → Sg → Rs → Sg → Prop} {X : Nat → List Vv → List Vv → Sg → Prop} {Xr : List Vv → Sg → Prop} {Xt : Nat → Sg → Prop} (hC : Clo C 11 cX11_worthBy (some .long) X Xr Xt) {x1 : Int} {σ : Sg} (h : X 5 [rV 20 66, iV x1, lV 1, uV, iV 0, uV] [] σ) : X 0 [rV 20 66, iV x1, uV, uV, uV, uV] [] σ := by
  refine st_lconst1 (pc := 0) hC dX11_worthBy_0 ?_
  refine st_lstore_n (L2 := [rV 20 66, iV x1, lV 1, uV, uV, uV]) (pc := 1) hC dX11_worthBy_1 (Nat.le_of_ble_eq_true rfl) rfl ?_
  refine st_iconst (pc := 2) hC dX11_worthBy_2 (by decide) ?_
  refine st_istore (L2 := [rV 20 66, iV x1, lV 1, uV, iV 0, uV]) (pc := 3) hC dX11_worthBy_3 (Nat.le_of_ble_eq_true rfl) rfl ?_
  exact h
theorem bX11_worthBy_5 {C : Nat → List Vv → Sg → Rs → Sg → Prop} {X : Nat → List Vv → List Vv → Sg → Prop} {Xr : List Vv → Sg → Prop} {Xt : Nat → Sg → Prop} (hC : Clo C 11 cX11_worthBy (some .long) X Xr Xt) {x1 x2 x4 : Int} {σ : Sg} (h : ∃ v1 : Int, C MX11_coins [rV 20 66] σ (.inl [iV v1]) σ ∧ (if x4 < v1 then (∃ v2 : Int, C MX11_ten [iV x4] σ (.inl [iV v2]) σ ∧ (v2 ≠ 0 ∧ (X 26 [rV 20 66, iV x1, lV x2, uV, iV x4, iV ((w32 (x1.tdiv v2)).tmod 10)] [] σ))) else (Xr [lV x2] σ))) : X 5 [rV 20 66, iV x1, lV x2, uV, iV x4, uV] [] σ := by
  refine st_iload (pc := 5) hC dX11_worthBy_5 rfl ?_
  refine st_aload_n (pc := 7) hC dX11_worthBy_7 rfl (by decide) (by decide) ?_
  obtain ⟨v1, hq, h⟩ := h
  refine st_invV (As := []) (v := [iV v1]) (S := [iV x4]) (pc := 8) hC dX11_worthBy_8 cl_11_193 rfl rfl (Nat.le_of_ble_eq_true rfl) cr_X11_coins hq ?_
  refine st_icmp_ge (tg := 53) (pc := 11) hC dX11_worthBy_11 (by decide) (ite_im h (fun h => ?_) (fun h => ?_))
  · refine st_iload_n (pc := 14) hC dX11_worthBy_14 rfl ?_
    refine st_iload (pc := 15) hC dX11_worthBy_15 rfl ?_
    obtain ⟨v2, hq, h⟩ := h
    refine st_invS (As := [iV x4]) (v := [iV v2]) (S := [iV x1]) (pc := 17) hC dX11_worthBy_17 cl_11_294 rfl rfl (Nat.le_of_ble_eq_true rfl) hq ?_
    obtain ⟨h0, h⟩ := h
    refine st_idiv (pc := 20) hC dX11_worthBy_20 h0 ?_
    refine st_bipush (pc := 21) hC dX11_worthBy_21 (by decide) ?_
    refine st_irem (pc := 23) hC dX11_worthBy_23 (by decide) ?_
    refine st_istore (L2 := [rV 20 66, iV x1, lV x2, uV, iV x4, iV ((w32 (x1.tdiv v2)).tmod 10)]) (pc := 24) hC dX11_worthBy_24 (Nat.le_of_ble_eq_true rfl) rfl ?_
    exact h
  · refine st_lload_n (pc := 53) hC dX11_worthBy_53 rfl ?_
    exact st_lreturn (pc := 54) hC dX11_worthBy_54 h
theorem bX11_worthBy_26 {C : Nat → List Vv → Sg → Rs → Sg → Prop} {X : Nat → List Vv → List Vv → Sg → Prop} {Xr : List Vv → Sg → Prop} {Xt : Nat → Sg → Prop} (hC : Clo C 11 cX11_worthBy (some .long) X Xr Xt) {x1 x2 x4 x5 : Int} {σ : Sg} (h : if (0 : Int) < x5 then (∃ v1 : Int, C MX11_prime [rV 20 66, iV x4] σ (.inl [iV v1]) σ ∧ (X 26 [rV 20 66, iV x1, lV (w64 (x2 * v1)), uV, iV x4, iV (w32 (x5 + (-1)))] [] σ)) else (X 5 [rV 20 66, iV x1, lV x2, uV, iV (w32 (x4 + 1)), uV] [] σ)) : X 26 [rV 20 66, iV x1, lV x2, uV, iV x4, iV x5] [] σ := by
  refine st_iload (pc := 26) hC dX11_worthBy_26 rfl ?_
  refine st_if_le (tg := 47) (pc := 28) hC dX11_worthBy_28 (by decide) (ite_im h (fun h => ?_) (fun h => ?_))
  · refine st_lload_n (pc := 31) hC dX11_worthBy_31 rfl ?_
    refine st_aload_n (pc := 32) hC dX11_worthBy_32 rfl (by decide) (by decide) ?_
    refine st_iload (pc := 33) hC dX11_worthBy_33 rfl ?_
    obtain ⟨v1, hq, h⟩ := h
    refine st_invV (As := [iV x4]) (v := [iV v1]) (S := [lV x2]) (pc := 35) hC dX11_worthBy_35 cl_11_200 rfl rfl (Nat.le_of_ble_eq_true rfl) cr_X11_prime hq ?_
    refine st_i2l (pc := 38) hC dX11_worthBy_38 ?_
    refine st_lmul (pc := 39) hC dX11_worthBy_39 ?_
    refine st_lstore_n (L2 := [rV 20 66, iV x1, lV (w64 (x2 * v1)), uV, iV x4, iV x5]) (pc := 40) hC dX11_worthBy_40 (Nat.le_of_ble_eq_true rfl) rfl ?_
    refine st_iinc (L2 := [rV 20 66, iV x1, lV (w64 (x2 * v1)), uV, iV x4, iV (w32 (x5 + (-1)))]) (pc := 41) hC dX11_worthBy_41 rfl (Nat.le_of_ble_eq_true rfl) rfl ?_
    refine st_goto (tg := 26) (pc := 44) hC dX11_worthBy_44 (by decide) ?_
    exact h
  · refine st_iinc (L2 := [rV 20 66, iV x1, lV x2, uV, iV (w32 (x4 + 1)), iV x5]) (pc := 47) hC dX11_worthBy_47 rfl (Nat.le_of_ble_eq_true rfl) rfl ?_
    refine st_goto (tg := 5) (pc := 50) hC dX11_worthBy_50 (by decide) ?_
    exact st_fg (L2 := [rV 20 66, iV x1, lV x2, uV, iV (w32 (x4 + 1)), uV]) hC ⟨Or.inl rfl, Or.inl rfl, Or.inl rfl, Or.inl rfl, Or.inl rfl, Or.inr rfl, trivial⟩ h
theorem bX11_beginsMet_0 {C : Nat → List Vv → Sg → Rs → Sg → Prop} {X : Nat → List Vv → List Vv → Sg → Prop} {Xr : List Vv → Sg → Prop} {Xt : Nat → Sg → Prop} (hC : Clo C 11 cX11_beginsMet none X Xr Xt) {x1 : Int} {σ : Sg} (h : X 2 [rV 20 66, iV x1, iV 0, uV] [] σ) : X 0 [rV 20 66, iV x1, uV, uV] [] σ := by
  refine st_iconst (pc := 0) hC dX11_beginsMet_0 (by decide) ?_
  refine st_istore_n (L2 := [rV 20 66, iV x1, iV 0, uV]) (pc := 1) hC dX11_beginsMet_1 (Nat.le_of_ble_eq_true rfl) rfl ?_
  exact h
theorem bX11_beginsMet_2 {C : Nat → List Vv → Sg → Rs → Sg → Prop} {X : Nat → List Vv → List Vv → Sg → Prop} {Xr : List Vv → Sg → Prop} {Xt : Nat → Sg → Prop} (hC : Clo C 11 cX11_beginsMet none X Xr Xt) {x1 x2 : Int} {σ : Sg} (h : if x2 < 32768 then ((0 ≤ x2 ∧ x2 < 32768) ∧ (X 2 [rV 20 66, iV x1, iV (w32 (x2 + 1)), uV] [] (upS σ 76 (x2).toNat 0))) else (X 30 [rV 20 66, iV x1, iV 0, iV 0] [] (upS σ 66 23 0))) : X 2 [rV 20 66, iV x1, iV x2, uV] [] σ := by
  refine st_iload_n (pc := 2) hC dX11_beginsMet_2 rfl ?_
  refine st_ldcI (pc := 3) hC dX11_beginsMet_3 rfl ?_
  refine st_icmp_ge (tg := 21) (pc := 5) hC dX11_beginsMet_5 (by decide) (ite_im h (fun h => ?_) (fun h => ?_))
  · refine st_aload_n (pc := 8) hC dX11_beginsMet_8 rfl (by decide) (by decide) ?_
    refine st_getf (ci := 10) (f := 22) (v := rV 1032768 76) (pc := 9) hC dX11_beginsMet_9 fl_11_44 rfl rfl ?_
    refine st_iload_n (pc := 12) hC dX11_beginsMet_12 rfl ?_
    refine st_iconst (pc := 13) hC dX11_beginsMet_13 (by decide) ?_
    obtain ⟨hb, h⟩ := h
    refine st_iast (n := 32768) (pc := 14) hC dX11_beginsMet_14 (by decide) hb ?_
    refine st_iinc (L2 := [rV 20 66, iV x1, iV (w32 (x2 + 1)), uV]) (pc := 15) hC dX11_beginsMet_15 rfl (Nat.le_of_ble_eq_true rfl) rfl ?_
    refine st_goto (tg := 2) (pc := 18) hC dX11_beginsMet_18 (by decide) ?_
    exact h
  · refine st_aload_n (pc := 21) hC dX11_beginsMet_21 rfl (by decide) (by decide) ?_
    refine st_iconst (pc := 22) hC dX11_beginsMet_22 (by decide) ?_
    refine st_putfI (ci := 10) (f := 23) (pc := 23) hC dX11_beginsMet_23 fl_11_291 rfl rfl ?_
    refine st_iconst (pc := 26) hC dX11_beginsMet_26 (by decide) ?_
    refine st_istore_n (L2 := [rV 20 66, iV x1, iV 0, uV]) (pc := 27) hC dX11_beginsMet_27 (Nat.le_of_ble_eq_true rfl) rfl ?_
    refine st_iconst (pc := 28) hC dX11_beginsMet_28 (by decide) ?_
    refine st_istore_n (L2 := [rV 20 66, iV x1, iV 0, iV 0]) (pc := 29) hC dX11_beginsMet_29 (Nat.le_of_ble_eq_true rfl) rfl ?_
    exact h
theorem bX11_beginsMet_30 {C : Nat → List Vv → Sg → Rs → Sg → Prop} {X : Nat → List Vv → List Vv → Sg → Prop} {Xr : List Vv → Sg → Prop} {Xt : Nat → Sg → Prop} (hC : Clo C 11 cX11_beginsMet none X Xr Xt) {x1 x2 x3 : Int} {σ : Sg} (h : ∃ v1 : Int, C MX11_coins [rV 20 66] σ (.inl [iV v1]) σ ∧ (if x3 < v1 then (∃ v2 : Int, C MX11_of [rV 20 66, iV x1, iV x3] σ (.inl [iV v2]) σ ∧ (∃ v3 : Int, C MX11_ten [iV x3] σ (.inl [iV v3]) σ ∧ (X 30 [rV 20 66, iV x1, iV (w32 (x2 + (w32 (v2 * v3)))), iV (w32 (x3 + 1))] [] σ))) else (∃ σ4 : Sg, C MX11_meets [rV 20 66, iV x2] σ (.inl []) σ4 ∧ (Xr [] σ4)))) : X 30 [rV 20 66, iV x1, iV x2, iV x3] [] σ := by
  refine st_iload_n (pc := 30) hC dX11_beginsMet_30 rfl ?_
  refine st_aload_n (pc := 31) hC dX11_beginsMet_31 rfl (by decide) (by decide) ?_
  obtain ⟨v1, hq, h⟩ := h
  refine st_invV (As := []) (v := [iV v1]) (S := [iV x3]) (pc := 32) hC dX11_beginsMet_32 cl_11_193 rfl rfl (Nat.le_of_ble_eq_true rfl) cr_X11_coins hq ?_
  refine st_icmp_ge (tg := 58) (pc := 35) hC dX11_beginsMet_35 (by decide) (ite_im h (fun h => ?_) (fun h => ?_))
  · refine st_iload_n (pc := 38) hC dX11_beginsMet_38 rfl ?_
    refine st_aload_n (pc := 39) hC dX11_beginsMet_39 rfl (by decide) (by decide) ?_
    refine st_iload_n (pc := 40) hC dX11_beginsMet_40 rfl ?_
    refine st_iload_n (pc := 41) hC dX11_beginsMet_41 rfl ?_
    obtain ⟨v2, hq, h⟩ := h
    refine st_invV (As := [iV x1, iV x3]) (v := [iV v2]) (S := [iV x2]) (pc := 42) hC dX11_beginsMet_42 cl_11_196 rfl rfl (Nat.le_of_ble_eq_true rfl) cr_X11_of hq ?_
    refine st_iload_n (pc := 45) hC dX11_beginsMet_45 rfl ?_
    obtain ⟨v3, hq, h⟩ := h
    refine st_invS (As := [iV x3]) (v := [iV v3]) (S := [iV v2, iV x2]) (pc := 46) hC dX11_beginsMet_46 cl_11_294 rfl rfl (Nat.le_of_ble_eq_true rfl) hq ?_
    refine st_imul (pc := 49) hC dX11_beginsMet_49 ?_
    refine st_iadd (pc := 50) hC dX11_beginsMet_50 ?_
    refine st_istore_n (L2 := [rV 20 66, iV x1, iV (w32 (x2 + (w32 (v2 * v3)))), iV x3]) (pc := 51) hC dX11_beginsMet_51 (Nat.le_of_ble_eq_true rfl) rfl ?_
    refine st_iinc (L2 := [rV 20 66, iV x1, iV (w32 (x2 + (w32 (v2 * v3)))), iV (w32 (x3 + 1))]) (pc := 52) hC dX11_beginsMet_52 rfl (Nat.le_of_ble_eq_true rfl) rfl ?_
    refine st_goto (tg := 30) (pc := 55) hC dX11_beginsMet_55 (by decide) ?_
    exact h
  · refine st_aload_n (pc := 58) hC dX11_beginsMet_58 rfl (by decide) (by decide) ?_
    refine st_iload_n (pc := 59) hC dX11_beginsMet_59 rfl ?_
    obtain ⟨σ4, hq, h⟩ := h
    refine st_invV (As := [iV x2]) (v := []) (S := []) (pc := 60) hC dX11_beginsMet_60 cl_11_306 rfl rfl (Nat.le_of_ble_eq_true rfl) cr_X11_meets hq ?_
    exact st_return (pc := 63) hC dX11_beginsMet_63 h
theorem bX11_grows_0 {C : Nat → List Vv → Sg → Rs → Sg → Prop} {X : Nat → List Vv → List Vv → Sg → Prop} {Xr : List Vv → Sg → Prop} {Xt : Nat → Sg → Prop} (hC : Clo C 11 cX11_grows (some .long) X Xr Xt) {x1 x2 : Int} {σ : Sg} (h : ∃ v1 : Int, C MX11_isPerson [rV 20 66, lV x1] σ (.inl [iV v1]) σ ∧ (if v1 = 0 then (if (0 : Int) < ((upS σ 66 5 1) 66 5) then (Xr [lV 0] (upS σ 66 5 1)) else (∃ σ2 : Sg, C MX11_beginsMet [rV 20 66, iV x1] (upS σ 66 5 1) (.inl []) σ2 ∧ (X 53 [rV 20 66, iV x1, iV x2, iV 0, iV 0, uV, uV, uV, uV] [] σ2))) else (∃ v3 : Int, C MX11_within [lV x2, lV 0, lV 6] σ (.inl [iV v3]) σ ∧ (if v3 = 0 then (if (0 : Int) < ((upS σ 66 5 2) 66 5) then (Xr [lV 0] (upS σ 66 5 2)) else (∃ σ4 : Sg, C MX11_beginsMet [rV 20 66, iV x1] (upS σ 66 5 2) (.inl []) σ4 ∧ (X 53 [rV 20 66, iV x1, iV x2, iV 0, iV 0, uV, uV, uV, uV] [] σ4))) else (if (0 : Int) < ((upS σ 66 5 0) 66 5) then (Xr [lV 0] (upS σ 66 5 0)) else (∃ σ5 : Sg, C MX11_beginsMet [rV 20 66, iV x1] (upS σ 66 5 0) (.inl []) σ5 ∧ (X 53 [rV 20 66, iV x1, iV x2, iV 0, iV 0, uV, uV, uV, uV] [] σ5))))))) : X 0 [rV 20 66, iV x1, iV x2, uV, uV, uV, uV, uV, uV] [] σ := by
  refine st_aload_n (pc := 0) hC dX11_grows_0 rfl (by decide) (by decide) ?_
  refine st_aload_n (pc := 1) hC dX11_grows_1 rfl (by decide) (by decide) ?_
  refine st_iload_n (pc := 2) hC dX11_grows_2 rfl ?_
  refine st_i2l (pc := 3) hC dX11_grows_3 ?_
  obtain ⟨v1, hq, h⟩ := h
  refine st_invV (As := [lV x1]) (v := [iV v1]) (S := [rV 20 66]) (pc := 4) hC dX11_grows_4 cl_11_203 rfl rfl (Nat.le_of_ble_eq_true rfl) cr_X11_isPerson hq ?_
  refine st_if_ne (tg := 14) (pc := 7) hC dX11_grows_7 (by decide) (ite_im h (fun h => ?_) (fun h => ?_))
  · refine st_iconst (pc := 10) hC dX11_grows_10 (by decide) ?_
    refine st_goto (tg := 31) (pc := 11) hC dX11_grows_11 (by decide) ?_
    refine st_putfI (ci := 10) (f := 5) (pc := 31) hC dX11_grows_31 fl_11_64 rfl rfl ?_
    refine st_aload_n (pc := 34) hC dX11_grows_34 rfl (by decide) (by decide) ?_
    refine st_getf (ci := 10) (f := 5) (v := iV ((upS σ 66 5 1) 66 5)) (pc := 35) hC dX11_grows_35 fl_11_64 rfl rfl ?_
    refine st_if_le (tg := 43) (pc := 38) hC dX11_grows_38 (by decide) (ite_im h (fun h => ?_) (fun h => ?_))
    · refine st_lconst0 (pc := 41) hC dX11_grows_41 ?_
      exact st_lreturn (pc := 42) hC dX11_grows_42 h
    · refine st_aload_n (pc := 43) hC dX11_grows_43 rfl (by decide) (by decide) ?_
      refine st_iload_n (pc := 44) hC dX11_grows_44 rfl ?_
      obtain ⟨σ2, hq, h⟩ := h
      refine st_invV (As := [iV x1]) (v := []) (S := []) (pc := 45) hC dX11_grows_45 cl_11_297 rfl rfl (Nat.le_of_ble_eq_true rfl) cr_X11_beginsMet hq ?_
      refine st_iconst (pc := 48) hC dX11_grows_48 (by decide) ?_
      refine st_istore_n (L2 := [rV 20 66, iV x1, iV x2, iV 0, uV, uV, uV, uV, uV]) (pc := 49) hC dX11_grows_49 (Nat.le_of_ble_eq_true rfl) rfl ?_
      refine st_iconst (pc := 50) hC dX11_grows_50 (by decide) ?_
      refine st_istore (L2 := [rV 20 66, iV x1, iV x2, iV 0, iV 0, uV, uV, uV, uV]) (pc := 51) hC dX11_grows_51 (Nat.le_of_ble_eq_true rfl) rfl ?_
      exact h
  · refine st_iload_n (pc := 14) hC dX11_grows_14 rfl ?_
    refine st_i2l (pc := 15) hC dX11_grows_15 ?_
    refine st_lconst0 (pc := 16) hC dX11_grows_16 ?_
    refine st_ldc2 (pc := 17) hC dX11_grows_17 rfl ?_
    obtain ⟨v3, hq, h⟩ := h
    refine st_invS (As := [lV x2, lV 0, lV 6]) (v := [iV v3]) (S := [rV 20 66]) (pc := 20) hC dX11_grows_20 cl_11_133 rfl rfl (Nat.le_of_ble_eq_true rfl) hq ?_
    refine st_if_eq (tg := 30) (pc := 23) hC dX11_grows_23 (by decide) (ite_im h (fun h => ?_) (fun h => ?_))
    · refine st_iconst (pc := 30) hC dX11_grows_30 (by decide) ?_
      refine st_putfI (ci := 10) (f := 5) (pc := 31) hC dX11_grows_31 fl_11_64 rfl rfl ?_
      refine st_aload_n (pc := 34) hC dX11_grows_34 rfl (by decide) (by decide) ?_
      refine st_getf (ci := 10) (f := 5) (v := iV ((upS σ 66 5 2) 66 5)) (pc := 35) hC dX11_grows_35 fl_11_64 rfl rfl ?_
      refine st_if_le (tg := 43) (pc := 38) hC dX11_grows_38 (by decide) (ite_im h (fun h => ?_) (fun h => ?_))
      · refine st_lconst0 (pc := 41) hC dX11_grows_41 ?_
        exact st_lreturn (pc := 42) hC dX11_grows_42 h
      · refine st_aload_n (pc := 43) hC dX11_grows_43 rfl (by decide) (by decide) ?_
        refine st_iload_n (pc := 44) hC dX11_grows_44 rfl ?_
        obtain ⟨σ4, hq, h⟩ := h
        refine st_invV (As := [iV x1]) (v := []) (S := []) (pc := 45) hC dX11_grows_45 cl_11_297 rfl rfl (Nat.le_of_ble_eq_true rfl) cr_X11_beginsMet hq ?_
        refine st_iconst (pc := 48) hC dX11_grows_48 (by decide) ?_
        refine st_istore_n (L2 := [rV 20 66, iV x1, iV x2, iV 0, uV, uV, uV, uV, uV]) (pc := 49) hC dX11_grows_49 (Nat.le_of_ble_eq_true rfl) rfl ?_
        refine st_iconst (pc := 50) hC dX11_grows_50 (by decide) ?_
        refine st_istore (L2 := [rV 20 66, iV x1, iV x2, iV 0, iV 0, uV, uV, uV, uV]) (pc := 51) hC dX11_grows_51 (Nat.le_of_ble_eq_true rfl) rfl ?_
        exact h
    · refine st_iconst (pc := 26) hC dX11_grows_26 (by decide) ?_
      refine st_goto (tg := 31) (pc := 27) hC dX11_grows_27 (by decide) ?_
      refine st_putfI (ci := 10) (f := 5) (pc := 31) hC dX11_grows_31 fl_11_64 rfl rfl ?_
      refine st_aload_n (pc := 34) hC dX11_grows_34 rfl (by decide) (by decide) ?_
      refine st_getf (ci := 10) (f := 5) (v := iV ((upS σ 66 5 0) 66 5)) (pc := 35) hC dX11_grows_35 fl_11_64 rfl rfl ?_
      refine st_if_le (tg := 43) (pc := 38) hC dX11_grows_38 (by decide) (ite_im h (fun h => ?_) (fun h => ?_))
      · refine st_lconst0 (pc := 41) hC dX11_grows_41 ?_
        exact st_lreturn (pc := 42) hC dX11_grows_42 h
      · refine st_aload_n (pc := 43) hC dX11_grows_43 rfl (by decide) (by decide) ?_
        refine st_iload_n (pc := 44) hC dX11_grows_44 rfl ?_
        obtain ⟨σ5, hq, h⟩ := h
        refine st_invV (As := [iV x1]) (v := []) (S := []) (pc := 45) hC dX11_grows_45 cl_11_297 rfl rfl (Nat.le_of_ble_eq_true rfl) cr_X11_beginsMet hq ?_
        refine st_iconst (pc := 48) hC dX11_grows_48 (by decide) ?_
        refine st_istore_n (L2 := [rV 20 66, iV x1, iV x2, iV 0, uV, uV, uV, uV, uV]) (pc := 49) hC dX11_grows_49 (Nat.le_of_ble_eq_true rfl) rfl ?_
        refine st_iconst (pc := 50) hC dX11_grows_50 (by decide) ?_
        refine st_istore (L2 := [rV 20 66, iV x1, iV x2, iV 0, iV 0, uV, uV, uV, uV]) (pc := 51) hC dX11_grows_51 (Nat.le_of_ble_eq_true rfl) rfl ?_
        exact h
theorem bX11_grows_53 {C : Nat → List Vv → Sg → Rs → Sg → Prop} {X : Nat → List Vv → List Vv → Sg → Prop} {Xr : List Vv → Sg → Prop} {Xt : Nat → Sg → Prop} (hC : Clo C 11 cX11_grows (some .long) X Xr Xt) {x1 x2 x3 x4 : Int} {σ : Sg} (h : if x4 < x2 then (X 68 [rV 20 66, iV x1, iV x2, iV x3, iV x4, iV (σ 66 23), iV x3, uV, uV] [] σ) else (X 157 [rV 20 66, iV x1, iV x2, iV x3, lV 0, uV, iV 0, uV, uV] [] σ)) : X 53 [rV 20 66, iV x1, iV x2, iV x3, iV x4, uV, uV, uV, uV] [] σ := by
  refine st_iload (pc := 53) hC dX11_grows_53 rfl ?_
  refine st_iload_n (pc := 55) hC dX11_grows_55 rfl ?_
  refine st_icmp_ge (tg := 151) (pc := 56) hC dX11_grows_56 (by decide) (ite_im h (fun h => ?_) (fun h => ?_))
  · refine st_aload_n (pc := 59) hC dX11_grows_59 rfl (by decide) (by decide) ?_
    refine st_getf (ci := 10) (f := 23) (v := iV (σ 66 23)) (pc := 60) hC dX11_grows_60 fl_11_291 rfl rfl ?_
    refine st_istore (L2 := [rV 20 66, iV x1, iV x2, iV x3, iV x4, iV (σ 66 23), uV, uV, uV]) (pc := 63) hC dX11_grows_63 (Nat.le_of_ble_eq_true rfl) rfl ?_
    refine st_iload_n (pc := 65) hC dX11_grows_65 rfl ?_
    refine st_istore (L2 := [rV 20 66, iV x1, iV x2, iV x3, iV x4, iV (σ 66 23), iV x3, uV, uV]) (pc := 66) hC dX11_grows_66 (Nat.le_of_ble_eq_true rfl) rfl ?_
    exact h
  · refine st_lconst0 (pc := 151) hC dX11_grows_151 ?_
    refine st_lstore (L2 := [rV 20 66, iV x1, iV x2, iV x3, lV 0, uV, uV, uV, uV]) (pc := 152) hC dX11_grows_152 (Nat.le_of_ble_eq_true rfl) rfl ?_
    refine st_iconst (pc := 154) hC dX11_grows_154 (by decide) ?_
    refine st_istore (L2 := [rV 20 66, iV x1, iV x2, iV x3, lV 0, uV, iV 0, uV, uV]) (pc := 155) hC dX11_grows_155 (Nat.le_of_ble_eq_true rfl) rfl ?_
    exact h
theorem bX11_grows_68 {C : Nat → List Vv → Sg → Rs → Sg → Prop} {X : Nat → List Vv → List Vv → Sg → Prop} {Xr : List Vv → Sg → Prop} {Xt : Nat → Sg → Prop} (hC : Clo C 11 cX11_grows (some .long) X Xr Xt) {x1 x2 x3 x4 x5 x6 : Int} {σ : Sg} (h : if x6 < x5 then (X 78 [rV 20 66, iV x1, iV x2, iV x3, iV x4, iV x5, iV x6, iV 0, uV] [] σ) else (if (3000 : Int) < (σ 66 23) then (Xr [lV (-1000)] σ) else (X 53 [rV 20 66, iV x1, iV x2, iV x5, iV (w32 (x4 + 1)), uV, uV, uV, uV] [] σ))) : X 68 [rV 20 66, iV x1, iV x2, iV x3, iV x4, iV x5, iV x6, uV, uV] [] σ := by
  refine st_iload (pc := 68) hC dX11_grows_68 rfl ?_
  refine st_iload (pc := 70) hC dX11_grows_70 rfl ?_
  refine st_icmp_ge (tg := 128) (pc := 72) hC dX11_grows_72 (by decide) (ite_im h (fun h => ?_) (fun h => ?_))
  · refine st_iconst (pc := 75) hC dX11_grows_75 (by decide) ?_
    refine st_istore (L2 := [rV 20 66, iV x1, iV x2, iV x3, iV x4, iV x5, iV x6, iV 0, uV]) (pc := 76) hC dX11_grows_76 (Nat.le_of_ble_eq_true rfl) rfl ?_
    exact h
  · refine st_aload_n (pc := 128) hC dX11_grows_128 rfl (by decide) (by decide) ?_
    refine st_getf (ci := 10) (f := 23) (v := iV (σ 66 23)) (pc := 129) hC dX11_grows_129 fl_11_291 rfl rfl ?_
    refine st_sipush (pc := 132) hC dX11_grows_132 (by decide) ?_
    refine st_icmp_le (tg := 142) (pc := 135) hC dX11_grows_135 (by decide) (ite_im h (fun h => ?_) (fun h => ?_))
    · refine st_ldc2 (pc := 138) hC dX11_grows_138 rfl ?_
      exact st_lreturn (pc := 141) hC dX11_grows_141 h
    · refine st_iload (pc := 142) hC dX11_grows_142 rfl ?_
      refine st_istore_n (L2 := [rV 20 66, iV x1, iV x2, iV x5, iV x4, iV x5, iV x6, uV, uV]) (pc := 144) hC dX11_grows_144 (Nat.le_of_ble_eq_true rfl) rfl ?_
      refine st_iinc (L2 := [rV 20 66, iV x1, iV x2, iV x5, iV (w32 (x4 + 1)), iV x5, iV x6, uV, uV]) (pc := 145) hC dX11_grows_145 rfl (Nat.le_of_ble_eq_true rfl) rfl ?_
      refine st_goto (tg := 53) (pc := 148) hC dX11_grows_148 (by decide) ?_
      exact st_fg (L2 := [rV 20 66, iV x1, iV x2, iV x5, iV (w32 (x4 + 1)), uV, uV, uV, uV]) hC ⟨Or.inl rfl, Or.inl rfl, Or.inl rfl, Or.inl rfl, Or.inl rfl, Or.inr rfl, Or.inr rfl, Or.inl rfl, Or.inl rfl, trivial⟩ h
theorem bX11_grows_78 {C : Nat → List Vv → Sg → Rs → Sg → Prop} {X : Nat → List Vv → List Vv → Sg → Prop} {Xr : List Vv → Sg → Prop} {Xt : Nat → Sg → Prop} (hC : Clo C 11 cX11_grows (some .long) X Xr Xt) {x1 x2 x3 x4 x5 x6 x7 : Int} {σ : Sg} (h : if x7 < (σ 67 3) then ((0 ≤ x6 ∧ x6 < 24000) ∧ (∃ v1 : Int, C MX11_changed [rV 20 66, iV (σ 75 (x6).toNat), iV x7] σ (.inl [iV v1]) σ ∧ (if v1 = (-1) then (X 78 [rV 20 66, iV x1, iV x2, iV x3, iV x4, iV x5, iV x6, iV (w32 (x7 + 1)), uV] [] σ) else (∃ σ2 : Sg, C MX11_meets [rV 20 66, iV v1] σ (.inl []) σ2 ∧ (X 78 [rV 20 66, iV x1, iV x2, iV x3, iV x4, iV x5, iV x6, iV (w32 (x7 + 1)), uV] [] σ2))))) else (X 68 [rV 20 66, iV x1, iV x2, iV x3, iV x4, iV x5, iV (w32 (x6 + 1)), uV, uV] [] σ)) : X 78 [rV 20 66, iV x1, iV x2, iV x3, iV x4, iV x5, iV x6, iV x7, uV] [] σ := by
  refine st_iload (pc := 78) hC dX11_grows_78 rfl ?_
  refine st_aload_n (pc := 80) hC dX11_grows_80 rfl (by decide) (by decide) ?_
  refine st_getf (ci := 10) (f := 0) (v := rV 1000181 67) (pc := 81) hC dX11_grows_81 fl_11_9 rfl rfl ?_
  refine st_iconst (pc := 84) hC dX11_grows_84 (by decide) ?_
  refine st_iald (n := 181) (pc := 85) hC dX11_grows_85 (by decide) ⟨by decide, by decide⟩ ?_
  refine st_icmp_ge (tg := 122) (pc := 86) hC dX11_grows_86 (by decide) (ite_im h (fun h => ?_) (fun h => ?_))
  · refine st_aload_n (pc := 89) hC dX11_grows_89 rfl (by decide) (by decide) ?_
    refine st_aload_n (pc := 90) hC dX11_grows_90 rfl (by decide) (by decide) ?_
    refine st_getf (ci := 10) (f := 21) (v := rV 1024000 75) (pc := 91) hC dX11_grows_91 fl_11_40 rfl rfl ?_
    refine st_iload (pc := 94) hC dX11_grows_94 rfl ?_
    obtain ⟨hb, h⟩ := h
    refine st_iald (n := 24000) (pc := 96) hC dX11_grows_96 (by decide) hb ?_
    refine st_iload (pc := 97) hC dX11_grows_97 rfl ?_
    obtain ⟨v1, hq, h⟩ := h
    refine st_invV (As := [iV (σ 75 (x6).toNat), iV x7]) (v := [iV v1]) (S := []) (pc := 99) hC dX11_grows_99 cl_11_303 rfl rfl (Nat.le_of_ble_eq_true rfl) cr_X11_changed hq ?_
    refine st_istore (L2 := [rV 20 66, iV x1, iV x2, iV x3, iV x4, iV x5, iV x6, iV x7, iV v1]) (pc := 102) hC dX11_grows_102 (Nat.le_of_ble_eq_true rfl) rfl ?_
    refine st_iload (pc := 104) hC dX11_grows_104 rfl ?_
    refine st_iconst (pc := 106) hC dX11_grows_106 (by decide) ?_
    refine st_icmp_eq (tg := 116) (pc := 107) hC dX11_grows_107 (by decide) (ite_im h (fun h => ?_) (fun h => ?_))
    · refine st_iinc (L2 := [rV 20 66, iV x1, iV x2, iV x3, iV x4, iV x5, iV x6, iV (w32 (x7 + 1)), iV v1]) (pc := 116) hC dX11_grows_116 rfl (Nat.le_of_ble_eq_true rfl) rfl ?_
      refine st_goto (tg := 78) (pc := 119) hC dX11_grows_119 (by decide) ?_
      exact st_fg (L2 := [rV 20 66, iV x1, iV x2, iV x3, iV x4, iV x5, iV x6, iV (w32 (x7 + 1)), uV]) hC ⟨Or.inl rfl, Or.inl rfl, Or.inl rfl, Or.inl rfl, Or.inl rfl, Or.inl rfl, Or.inl rfl, Or.inl rfl, Or.inr rfl, trivial⟩ h
    · refine st_aload_n (pc := 110) hC dX11_grows_110 rfl (by decide) (by decide) ?_
      refine st_iload (pc := 111) hC dX11_grows_111 rfl ?_
      obtain ⟨σ2, hq, h⟩ := h
      refine st_invV (As := [iV v1]) (v := []) (S := []) (pc := 113) hC dX11_grows_113 cl_11_306 rfl rfl (Nat.le_of_ble_eq_true rfl) cr_X11_meets hq ?_
      refine st_iinc (L2 := [rV 20 66, iV x1, iV x2, iV x3, iV x4, iV x5, iV x6, iV (w32 (x7 + 1)), iV v1]) (pc := 116) hC dX11_grows_116 rfl (Nat.le_of_ble_eq_true rfl) rfl ?_
      refine st_goto (tg := 78) (pc := 119) hC dX11_grows_119 (by decide) ?_
      exact st_fg (L2 := [rV 20 66, iV x1, iV x2, iV x3, iV x4, iV x5, iV x6, iV (w32 (x7 + 1)), uV]) hC ⟨Or.inl rfl, Or.inl rfl, Or.inl rfl, Or.inl rfl, Or.inl rfl, Or.inl rfl, Or.inl rfl, Or.inl rfl, Or.inr rfl, trivial⟩ h
  · refine st_iinc (L2 := [rV 20 66, iV x1, iV x2, iV x3, iV x4, iV x5, iV (w32 (x6 + 1)), iV x7, uV]) (pc := 122) hC dX11_grows_122 rfl (Nat.le_of_ble_eq_true rfl) rfl ?_
    refine st_goto (tg := 68) (pc := 125) hC dX11_grows_125 (by decide) ?_
    exact st_fg (L2 := [rV 20 66, iV x1, iV x2, iV x3, iV x4, iV x5, iV (w32 (x6 + 1)), uV, uV]) hC ⟨Or.inl rfl, Or.inl rfl, Or.inl rfl, Or.inl rfl, Or.inl rfl, Or.inl rfl, Or.inl rfl, Or.inr rfl, Or.inl rfl, trivial⟩ h
theorem bX11_grows_157 {C : Nat → List Vv → Sg → Rs → Sg → Prop} {X : Nat → List Vv → List Vv → Sg → Prop} {Xr : List Vv → Sg → Prop} {Xt : Nat → Sg → Prop} (hC : Clo C 11 cX11_grows (some .long) X Xr Xt) {x1 x2 x3 x4 x6 : Int} {σ : Sg} (h : if x6 < (σ 66 23) then ((0 ≤ x6 ∧ x6 < 24000) ∧ (∃ v1 : Int, C MX11_worthBy [rV 20 66, iV (σ 75 (x6).toNat)] σ (.inl [lV v1]) σ ∧ (X 157 [rV 20 66, iV x1, iV x2, iV x3, lV (max x4 v1), uV, iV (w32 (x6 + 1)), uV, uV] [] σ))) else (Xr [lV x4] σ)) : X 157 [rV 20 66, iV x1, iV x2, iV x3, lV x4, uV, iV x6, uV, uV] [] σ := by
  refine st_iload (pc := 157) hC dX11_grows_157 rfl ?_
  refine st_aload_n (pc := 159) hC dX11_grows_159 rfl (by decide) (by decide) ?_
  refine st_getf (ci := 10) (f := 23) (v := iV (σ 66 23)) (pc := 160) hC dX11_grows_160 fl_11_291 rfl rfl ?_
  refine st_icmp_ge (tg := 190) (pc := 163) hC dX11_grows_163 (by decide) (ite_im h (fun h => ?_) (fun h => ?_))
  · refine st_lload (pc := 166) hC dX11_grows_166 rfl ?_
    refine st_aload_n (pc := 168) hC dX11_grows_168 rfl (by decide) (by decide) ?_
    refine st_aload_n (pc := 169) hC dX11_grows_169 rfl (by decide) (by decide) ?_
    refine st_getf (ci := 10) (f := 21) (v := rV 1024000 75) (pc := 170) hC dX11_grows_170 fl_11_40 rfl rfl ?_
    refine st_iload (pc := 173) hC dX11_grows_173 rfl ?_
    obtain ⟨hb, h⟩ := h
    refine st_iald (n := 24000) (pc := 175) hC dX11_grows_175 (by decide) hb ?_
    obtain ⟨v1, hq, h⟩ := h
    refine st_invV (As := [iV (σ 75 (x6).toNat)]) (v := [lV v1]) (S := [lV x4]) (pc := 176) hC dX11_grows_176 cl_11_317 rfl rfl (Nat.le_of_ble_eq_true rfl) cr_X11_worthBy hq ?_
    refine st_lmax (pc := 179) hC dX11_grows_179 rfl (Nat.le_of_ble_eq_true rfl) ?_
    refine st_lstore (L2 := [rV 20 66, iV x1, iV x2, iV x3, lV (max x4 v1), uV, iV x6, uV, uV]) (pc := 182) hC dX11_grows_182 (Nat.le_of_ble_eq_true rfl) rfl ?_
    refine st_iinc (L2 := [rV 20 66, iV x1, iV x2, iV x3, lV (max x4 v1), uV, iV (w32 (x6 + 1)), uV, uV]) (pc := 184) hC dX11_grows_184 rfl (Nat.le_of_ble_eq_true rfl) rfl ?_
    refine st_goto (tg := 157) (pc := 187) hC dX11_grows_187 (by decide) ?_
    exact h
  · refine st_lload (pc := 190) hC dX11_grows_190 rfl ?_
    exact st_lreturn (pc := 192) hC dX11_grows_192 h
theorem bX11_swap_0 {C : Nat → List Vv → Sg → Rs → Sg → Prop} {X : Nat → List Vv → List Vv → Sg → Prop} {Xr : List Vv → Sg → Prop} {Xt : Nat → Sg → Prop} (hC : Clo C 11 cX11_swap (some .long) X Xr Xt) {x1 x2 x3 : Int} {σ : Sg} (h : ∃ v1 : Int, C MX11_isPerson [rV 20 66, lV x1] σ (.inl [iV v1]) σ ∧ (if v1 = 0 then (if (0 : Int) < ((upS σ 66 5 1) 66 5) then (Xr [lV 0] (upS σ 66 5 1)) else (X 69 [rV 20 66, iV x1, iV x2, iV x3, iV (-1), iV (-1), lV 0, uV, iV 0, uV, uV, uV] [] (upS σ 66 5 1))) else (∃ v2 : Int, C MX11_isPerson [rV 20 66, lV x2] σ (.inl [iV v2]) σ ∧ (if v2 = 0 then (if (0 : Int) < ((upS σ 66 5 1) 66 5) then (Xr [lV 0] (upS σ 66 5 1)) else (X 69 [rV 20 66, iV x1, iV x2, iV x3, iV (-1), iV (-1), lV 0, uV, iV 0, uV, uV, uV] [] (upS σ 66 5 1))) else (if x1 = x2 then (if (0 : Int) < ((upS σ 66 5 2) 66 5) then (Xr [lV 0] (upS σ 66 5 2)) else (X 69 [rV 20 66, iV x1, iV x2, iV x3, iV (-1), iV (-1), lV 0, uV, iV 0, uV, uV, uV] [] (upS σ 66 5 2))) else (∃ v3 : Int, C MX11_within [lV x3, lV 0, lV 2] σ (.inl [iV v3]) σ ∧ (if v3 = 0 then (if (0 : Int) < ((upS σ 66 5 2) 66 5) then (Xr [lV 0] (upS σ 66 5 2)) else (X 69 [rV 20 66, iV x1, iV x2, iV x3, iV (-1), iV (-1), lV 0, uV, iV 0, uV, uV, uV] [] (upS σ 66 5 2))) else (if (0 : Int) < ((upS σ 66 5 0) 66 5) then (Xr [lV 0] (upS σ 66 5 0)) else (X 69 [rV 20 66, iV x1, iV x2, iV x3, iV (-1), iV (-1), lV 0, uV, iV 0, uV, uV, uV] [] (upS σ 66 5 0)))))))))) : X 0 [rV 20 66, iV x1, iV x2, iV x3, uV, uV, uV, uV, uV, uV, uV, uV] [] σ := by
  refine st_aload_n (pc := 0) hC dX11_swap_0 rfl (by decide) (by decide) ?_
  refine st_aload_n (pc := 1) hC dX11_swap_1 rfl (by decide) (by decide) ?_
  refine st_iload_n (pc := 2) hC dX11_swap_2 rfl ?_
  refine st_i2l (pc := 3) hC dX11_swap_3 ?_
  obtain ⟨v1, hq, h⟩ := h
  refine st_invV (As := [lV x1]) (v := [iV v1]) (S := [rV 20 66]) (pc := 4) hC dX11_swap_4 cl_11_203 rfl rfl (Nat.le_of_ble_eq_true rfl) cr_X11_isPerson hq ?_
  refine st_if_eq (tg := 19) (pc := 7) hC dX11_swap_7 (by decide) (ite_im h (fun h => ?_) (fun h => ?_))
  · refine st_iconst (pc := 19) hC dX11_swap_19 (by decide) ?_
    refine st_goto (tg := 45) (pc := 20) hC dX11_swap_20 (by decide) ?_
    refine st_putfI (ci := 10) (f := 5) (pc := 45) hC dX11_swap_45 fl_11_64 rfl rfl ?_
    refine st_aload_n (pc := 48) hC dX11_swap_48 rfl (by decide) (by decide) ?_
    refine st_getf (ci := 10) (f := 5) (v := iV ((upS σ 66 5 1) 66 5)) (pc := 49) hC dX11_swap_49 fl_11_64 rfl rfl ?_
    refine st_if_le (tg := 57) (pc := 52) hC dX11_swap_52 (by decide) (ite_im h (fun h => ?_) (fun h => ?_))
    · refine st_lconst0 (pc := 55) hC dX11_swap_55 ?_
      exact st_lreturn (pc := 56) hC dX11_swap_56 h
    · refine st_iconst (pc := 57) hC dX11_swap_57 (by decide) ?_
      refine st_istore (L2 := [rV 20 66, iV x1, iV x2, iV x3, iV (-1), uV, uV, uV, uV, uV, uV, uV]) (pc := 58) hC dX11_swap_58 (Nat.le_of_ble_eq_true rfl) rfl ?_
      refine st_iconst (pc := 60) hC dX11_swap_60 (by decide) ?_
      refine st_istore (L2 := [rV 20 66, iV x1, iV x2, iV x3, iV (-1), iV (-1), uV, uV, uV, uV, uV, uV]) (pc := 61) hC dX11_swap_61 (Nat.le_of_ble_eq_true rfl) rfl ?_
      refine st_lconst0 (pc := 63) hC dX11_swap_63 ?_
      refine st_lstore (L2 := [rV 20 66, iV x1, iV x2, iV x3, iV (-1), iV (-1), lV 0, uV, uV, uV, uV, uV]) (pc := 64) hC dX11_swap_64 (Nat.le_of_ble_eq_true rfl) rfl ?_
      refine st_iconst (pc := 66) hC dX11_swap_66 (by decide) ?_
      refine st_istore (L2 := [rV 20 66, iV x1, iV x2, iV x3, iV (-1), iV (-1), lV 0, uV, iV 0, uV, uV, uV]) (pc := 67) hC dX11_swap_67 (Nat.le_of_ble_eq_true rfl) rfl ?_
      exact h
  · refine st_aload_n (pc := 10) hC dX11_swap_10 rfl (by decide) (by decide) ?_
    refine st_iload_n (pc := 11) hC dX11_swap_11 rfl ?_
    refine st_i2l (pc := 12) hC dX11_swap_12 ?_
    obtain ⟨v2, hq, h⟩ := h
    refine st_invV (As := [lV x2]) (v := [iV v2]) (S := [rV 20 66]) (pc := 13) hC dX11_swap_13 cl_11_203 rfl rfl (Nat.le_of_ble_eq_true rfl) cr_X11_isPerson hq ?_
    refine st_if_ne (tg := 23) (pc := 16) hC dX11_swap_16 (by decide) (ite_im h (fun h => ?_) (fun h => ?_))
    · refine st_iconst (pc := 19) hC dX11_swap_19 (by decide) ?_
      refine st_goto (tg := 45) (pc := 20) hC dX11_swap_20 (by decide) ?_
      refine st_putfI (ci := 10) (f := 5) (pc := 45) hC dX11_swap_45 fl_11_64 rfl rfl ?_
      refine st_aload_n (pc := 48) hC dX11_swap_48 rfl (by decide) (by decide) ?_
      refine st_getf (ci := 10) (f := 5) (v := iV ((upS σ 66 5 1) 66 5)) (pc := 49) hC dX11_swap_49 fl_11_64 rfl rfl ?_
      refine st_if_le (tg := 57) (pc := 52) hC dX11_swap_52 (by decide) (ite_im h (fun h => ?_) (fun h => ?_))
      · refine st_lconst0 (pc := 55) hC dX11_swap_55 ?_
        exact st_lreturn (pc := 56) hC dX11_swap_56 h
      · refine st_iconst (pc := 57) hC dX11_swap_57 (by decide) ?_
        refine st_istore (L2 := [rV 20 66, iV x1, iV x2, iV x3, iV (-1), uV, uV, uV, uV, uV, uV, uV]) (pc := 58) hC dX11_swap_58 (Nat.le_of_ble_eq_true rfl) rfl ?_
        refine st_iconst (pc := 60) hC dX11_swap_60 (by decide) ?_
        refine st_istore (L2 := [rV 20 66, iV x1, iV x2, iV x3, iV (-1), iV (-1), uV, uV, uV, uV, uV, uV]) (pc := 61) hC dX11_swap_61 (Nat.le_of_ble_eq_true rfl) rfl ?_
        refine st_lconst0 (pc := 63) hC dX11_swap_63 ?_
        refine st_lstore (L2 := [rV 20 66, iV x1, iV x2, iV x3, iV (-1), iV (-1), lV 0, uV, uV, uV, uV, uV]) (pc := 64) hC dX11_swap_64 (Nat.le_of_ble_eq_true rfl) rfl ?_
        refine st_iconst (pc := 66) hC dX11_swap_66 (by decide) ?_
        refine st_istore (L2 := [rV 20 66, iV x1, iV x2, iV x3, iV (-1), iV (-1), lV 0, uV, iV 0, uV, uV, uV]) (pc := 67) hC dX11_swap_67 (Nat.le_of_ble_eq_true rfl) rfl ?_
        exact h
    · refine st_iload_n (pc := 23) hC dX11_swap_23 rfl ?_
      refine st_iload_n (pc := 24) hC dX11_swap_24 rfl ?_
      refine st_icmp_eq (tg := 40) (pc := 25) hC dX11_swap_25 (by decide) (ite_im h (fun h => ?_) (fun h => ?_))
      · refine st_iconst (pc := 40) hC dX11_swap_40 (by decide) ?_
        refine st_goto (tg := 45) (pc := 41) hC dX11_swap_41 (by decide) ?_
        refine st_putfI (ci := 10) (f := 5) (pc := 45) hC dX11_swap_45 fl_11_64 rfl rfl ?_
        refine st_aload_n (pc := 48) hC dX11_swap_48 rfl (by decide) (by decide) ?_
        refine st_getf (ci := 10) (f := 5) (v := iV ((upS σ 66 5 2) 66 5)) (pc := 49) hC dX11_swap_49 fl_11_64 rfl rfl ?_
        refine st_if_le (tg := 57) (pc := 52) hC dX11_swap_52 (by decide) (ite_im h (fun h => ?_) (fun h => ?_))
        · refine st_lconst0 (pc := 55) hC dX11_swap_55 ?_
          exact st_lreturn (pc := 56) hC dX11_swap_56 h
        · refine st_iconst (pc := 57) hC dX11_swap_57 (by decide) ?_
          refine st_istore (L2 := [rV 20 66, iV x1, iV x2, iV x3, iV (-1), uV, uV, uV, uV, uV, uV, uV]) (pc := 58) hC dX11_swap_58 (Nat.le_of_ble_eq_true rfl) rfl ?_
          refine st_iconst (pc := 60) hC dX11_swap_60 (by decide) ?_
          refine st_istore (L2 := [rV 20 66, iV x1, iV x2, iV x3, iV (-1), iV (-1), uV, uV, uV, uV, uV, uV]) (pc := 61) hC dX11_swap_61 (Nat.le_of_ble_eq_true rfl) rfl ?_
          refine st_lconst0 (pc := 63) hC dX11_swap_63 ?_
          refine st_lstore (L2 := [rV 20 66, iV x1, iV x2, iV x3, iV (-1), iV (-1), lV 0, uV, uV, uV, uV, uV]) (pc := 64) hC dX11_swap_64 (Nat.le_of_ble_eq_true rfl) rfl ?_
          refine st_iconst (pc := 66) hC dX11_swap_66 (by decide) ?_
          refine st_istore (L2 := [rV 20 66, iV x1, iV x2, iV x3, iV (-1), iV (-1), lV 0, uV, iV 0, uV, uV, uV]) (pc := 67) hC dX11_swap_67 (Nat.le_of_ble_eq_true rfl) rfl ?_
          exact h
      · refine st_iload_n (pc := 28) hC dX11_swap_28 rfl ?_
        refine st_i2l (pc := 29) hC dX11_swap_29 ?_
        refine st_lconst0 (pc := 30) hC dX11_swap_30 ?_
        refine st_ldc2 (pc := 31) hC dX11_swap_31 rfl ?_
        obtain ⟨v3, hq, h⟩ := h
        refine st_invS (As := [lV x3, lV 0, lV 2]) (v := [iV v3]) (S := [rV 20 66]) (pc := 34) hC dX11_swap_34 cl_11_133 rfl rfl (Nat.le_of_ble_eq_true rfl) hq ?_
        refine st_if_ne (tg := 44) (pc := 37) hC dX11_swap_37 (by decide) (ite_im h (fun h => ?_) (fun h => ?_))
        · refine st_iconst (pc := 40) hC dX11_swap_40 (by decide) ?_
          refine st_goto (tg := 45) (pc := 41) hC dX11_swap_41 (by decide) ?_
          refine st_putfI (ci := 10) (f := 5) (pc := 45) hC dX11_swap_45 fl_11_64 rfl rfl ?_
          refine st_aload_n (pc := 48) hC dX11_swap_48 rfl (by decide) (by decide) ?_
          refine st_getf (ci := 10) (f := 5) (v := iV ((upS σ 66 5 2) 66 5)) (pc := 49) hC dX11_swap_49 fl_11_64 rfl rfl ?_
          refine st_if_le (tg := 57) (pc := 52) hC dX11_swap_52 (by decide) (ite_im h (fun h => ?_) (fun h => ?_))
          · refine st_lconst0 (pc := 55) hC dX11_swap_55 ?_
            exact st_lreturn (pc := 56) hC dX11_swap_56 h
          · refine st_iconst (pc := 57) hC dX11_swap_57 (by decide) ?_
            refine st_istore (L2 := [rV 20 66, iV x1, iV x2, iV x3, iV (-1), uV, uV, uV, uV, uV, uV, uV]) (pc := 58) hC dX11_swap_58 (Nat.le_of_ble_eq_true rfl) rfl ?_
            refine st_iconst (pc := 60) hC dX11_swap_60 (by decide) ?_
            refine st_istore (L2 := [rV 20 66, iV x1, iV x2, iV x3, iV (-1), iV (-1), uV, uV, uV, uV, uV, uV]) (pc := 61) hC dX11_swap_61 (Nat.le_of_ble_eq_true rfl) rfl ?_
            refine st_lconst0 (pc := 63) hC dX11_swap_63 ?_
            refine st_lstore (L2 := [rV 20 66, iV x1, iV x2, iV x3, iV (-1), iV (-1), lV 0, uV, uV, uV, uV, uV]) (pc := 64) hC dX11_swap_64 (Nat.le_of_ble_eq_true rfl) rfl ?_
            refine st_iconst (pc := 66) hC dX11_swap_66 (by decide) ?_
            refine st_istore (L2 := [rV 20 66, iV x1, iV x2, iV x3, iV (-1), iV (-1), lV 0, uV, iV 0, uV, uV, uV]) (pc := 67) hC dX11_swap_67 (Nat.le_of_ble_eq_true rfl) rfl ?_
            exact h
        · refine st_iconst (pc := 44) hC dX11_swap_44 (by decide) ?_
          refine st_putfI (ci := 10) (f := 5) (pc := 45) hC dX11_swap_45 fl_11_64 rfl rfl ?_
          refine st_aload_n (pc := 48) hC dX11_swap_48 rfl (by decide) (by decide) ?_
          refine st_getf (ci := 10) (f := 5) (v := iV ((upS σ 66 5 0) 66 5)) (pc := 49) hC dX11_swap_49 fl_11_64 rfl rfl ?_
          refine st_if_le (tg := 57) (pc := 52) hC dX11_swap_52 (by decide) (ite_im h (fun h => ?_) (fun h => ?_))
          · refine st_lconst0 (pc := 55) hC dX11_swap_55 ?_
            exact st_lreturn (pc := 56) hC dX11_swap_56 h
          · refine st_iconst (pc := 57) hC dX11_swap_57 (by decide) ?_
            refine st_istore (L2 := [rV 20 66, iV x1, iV x2, iV x3, iV (-1), uV, uV, uV, uV, uV, uV, uV]) (pc := 58) hC dX11_swap_58 (Nat.le_of_ble_eq_true rfl) rfl ?_
            refine st_iconst (pc := 60) hC dX11_swap_60 (by decide) ?_
            refine st_istore (L2 := [rV 20 66, iV x1, iV x2, iV x3, iV (-1), iV (-1), uV, uV, uV, uV, uV, uV]) (pc := 61) hC dX11_swap_61 (Nat.le_of_ble_eq_true rfl) rfl ?_
            refine st_lconst0 (pc := 63) hC dX11_swap_63 ?_
            refine st_lstore (L2 := [rV 20 66, iV x1, iV x2, iV x3, iV (-1), iV (-1), lV 0, uV, uV, uV, uV, uV]) (pc := 64) hC dX11_swap_64 (Nat.le_of_ble_eq_true rfl) rfl ?_
            refine st_iconst (pc := 66) hC dX11_swap_66 (by decide) ?_
            refine st_istore (L2 := [rV 20 66, iV x1, iV x2, iV x3, iV (-1), iV (-1), lV 0, uV, iV 0, uV, uV, uV]) (pc := 67) hC dX11_swap_67 (Nat.le_of_ble_eq_true rfl) rfl ?_
            exact h
theorem bX11_swap_69 {C : Nat → List Vv → Sg → Rs → Sg → Prop} {X : Nat → List Vv → List Vv → Sg → Prop} {Xr : List Vv → Sg → Prop} {Xt : Nat → Sg → Prop} (hC : Clo C 11 cX11_swap (some .long) X Xr Xt) {x1 x2 x3 x4 x5 x6 x8 : Int} {σ : Sg} (h : ∃ v1 : Int, C MX11_coins [rV 20 66] σ (.inl [iV v1]) σ ∧ (if x8 < v1 then (X 81 [rV 20 66, iV x1, iV x2, iV x3, iV x4, iV x5, lV x6, uV, iV x8, iV 0, uV, uV] [] σ) else (if x4 = (-1) then (Xr [lV (-1)] σ) else (if x3 = 0 then (Xr [lV x4] σ) else (if x3 = 1 then (Xr [lV x5] σ) else (Xr [lV x6] σ)))))) : X 69 [rV 20 66, iV x1, iV x2, iV x3, iV x4, iV x5, lV x6, uV, iV x8, uV, uV, uV] [] σ := by
  refine st_iload (pc := 69) hC dX11_swap_69 rfl ?_
  refine st_aload_n (pc := 71) hC dX11_swap_71 rfl (by decide) (by decide) ?_
  obtain ⟨v1, hq, h⟩ := h
  refine st_invV (As := []) (v := [iV v1]) (S := [iV x8]) (pc := 72) hC dX11_swap_72 cl_11_193 rfl rfl (Nat.le_of_ble_eq_true rfl) cr_X11_coins hq ?_
  refine st_icmp_ge (tg := 217) (pc := 75) hC dX11_swap_75 (by decide) (ite_im h (fun h => ?_) (fun h => ?_))
  · refine st_iconst (pc := 78) hC dX11_swap_78 (by decide) ?_
    refine st_istore (L2 := [rV 20 66, iV x1, iV x2, iV x3, iV x4, iV x5, lV x6, uV, iV x8, iV 0, uV, uV]) (pc := 79) hC dX11_swap_79 (Nat.le_of_ble_eq_true rfl) rfl ?_
    exact h
  · refine st_iload (pc := 217) hC dX11_swap_217 rfl ?_
    refine st_iconst (pc := 219) hC dX11_swap_219 (by decide) ?_
    refine st_icmp_ne (tg := 229) (pc := 220) hC dX11_swap_220 (by decide) (ite_im h (fun h => ?_) (fun h => ?_))
    · refine st_ldc2 (pc := 223) hC dX11_swap_223 rfl ?_
      refine st_goto (tg := 252) (pc := 226) hC dX11_swap_226 (by decide) ?_
      exact st_lreturn (pc := 252) hC dX11_swap_252 h
    · refine st_iload_n (pc := 229) hC dX11_swap_229 rfl ?_
      refine st_if_ne (tg := 239) (pc := 230) hC dX11_swap_230 (by decide) (ite_im h (fun h => ?_) (fun h => ?_))
      · refine st_iload (pc := 233) hC dX11_swap_233 rfl ?_
        refine st_i2l (pc := 235) hC dX11_swap_235 ?_
        refine st_goto (tg := 252) (pc := 236) hC dX11_swap_236 (by decide) ?_
        exact st_lreturn (pc := 252) hC dX11_swap_252 h
      · refine st_iload_n (pc := 239) hC dX11_swap_239 rfl ?_
        refine st_iconst (pc := 240) hC dX11_swap_240 (by decide) ?_
        refine st_icmp_ne (tg := 250) (pc := 241) hC dX11_swap_241 (by decide) (ite_im h (fun h => ?_) (fun h => ?_))
        · refine st_iload (pc := 244) hC dX11_swap_244 rfl ?_
          refine st_i2l (pc := 246) hC dX11_swap_246 ?_
          refine st_goto (tg := 252) (pc := 247) hC dX11_swap_247 (by decide) ?_
          exact st_lreturn (pc := 252) hC dX11_swap_252 h
        · refine st_lload (pc := 250) hC dX11_swap_250 rfl ?_
          exact st_lreturn (pc := 252) hC dX11_swap_252 h
theorem bX11_swap_81 {C : Nat → List Vv → Sg → Rs → Sg → Prop} {X : Nat → List Vv → List Vv → Sg → Prop} {Xr : List Vv → Sg → Prop} {Xt : Nat → Sg → Prop} (hC : Clo C 11 cX11_swap (some .long) X Xr Xt) {x1 x2 x3 x4 x5 x6 x8 x9 : Int} {σ : Sg} (h : ∃ v1 : Int, C MX11_coins [rV 20 66] σ (.inl [iV v1]) σ ∧ (if x9 < v1 then (if x8 = x9 then (X 81 [rV 20 66, iV x1, iV x2, iV x3, iV x4, iV x5, lV x6, uV, iV x8, iV (w32 (x9 + 1)), uV, uV] [] σ) else (∃ v2 : Int, C MX11_of [rV 20 66, iV x1, iV x8] σ (.inl [iV v2]) σ ∧ (if v2 = 0 then (X 81 [rV 20 66, iV x1, iV x2, iV x3, iV x4, iV x5, lV x6, uV, iV x8, iV (w32 (x9 + 1)), uV, uV] [] σ) else (∃ v3 : Int, C MX11_of [rV 20 66, iV x2, iV x9] σ (.inl [iV v3]) σ ∧ (if v3 = 0 then (X 81 [rV 20 66, iV x1, iV x2, iV x3, iV x4, iV x5, lV x6, uV, iV x8, iV (w32 (x9 + 1)), uV, uV] [] σ) else (∃ v4 : Int, C MX11_worthOf [rV 20 66, iV x1] σ (.inl [lV v4]) σ ∧ (∃ v5 : Int, C MX11_prime [rV 20 66, iV x8] σ (.inl [iV v5]) σ ∧ (v5 ≠ 0 ∧ (∃ v6 : Int, C MX11_prime [rV 20 66, iV x9] σ (.inl [iV v6]) σ ∧ (∃ v7 : Int, C MX11_worthOf [rV 20 66, iV x2] σ (.inl [lV v7]) σ ∧ (∃ v8 : Int, C MX11_prime [rV 20 66, iV x9] σ (.inl [iV v8]) σ ∧ (v8 ≠ 0 ∧ (∃ v9 : Int, C MX11_prime [rV 20 66, iV x8] σ (.inl [iV v9]) σ ∧ (if x4 = (-1) then (∃ v10 : Int, C MX11_prime [rV 20 66, iV x8] σ (.inl [iV v10]) σ ∧ (∃ v11 : Int, C MX11_prime [rV 20 66, iV x9] σ (.inl [iV v11]) σ ∧ (X 81 [rV 20 66, iV x1, iV x2, iV x3, iV v10, iV v11, lV (absI (w64 ((w64 ((w64 (v4.tdiv v5)) * v6)) - (w64 ((w64 (v7.tdiv v8)) * v9))))), uV, iV x8, iV (w32 (x9 + 1)), uV, uV] [] σ))) else (if (absI (w64 ((w64 ((w64 (v4.tdiv v5)) * v6)) - (w64 ((w64 (v7.tdiv v8)) * v9))))) < x6 then (∃ v12 : Int, C MX11_prime [rV 20 66, iV x8] σ (.inl [iV v12]) σ ∧ (∃ v13 : Int, C MX11_prime [rV 20 66, iV x9] σ (.inl [iV v13]) σ ∧ (X 81 [rV 20 66, iV x1, iV x2, iV x3, iV v12, iV v13, lV (absI (w64 ((w64 ((w64 (v4.tdiv v5)) * v6)) - (w64 ((w64 (v7.tdiv v8)) * v9))))), uV, iV x8, iV (w32 (x9 + 1)), uV, uV] [] σ))) else (X 81 [rV 20 66, iV x1, iV x2, iV x3, iV x4, iV x5, lV x6, uV, iV x8, iV (w32 (x9 + 1)), uV, uV] [] σ)))))))))))))))) else (X 69 [rV 20 66, iV x1, iV x2, iV x3, iV x4, iV x5, lV x6, uV, iV (w32 (x8 + 1)), uV, uV, uV] [] σ))) : X 81 [rV 20 66, iV x1, iV x2, iV x3, iV x4, iV x5, lV x6, uV, iV x8, iV x9, uV, uV] [] σ := by
  refine st_iload (pc := 81) hC dX11_swap_81 rfl ?_
  refine st_aload_n (pc := 83) hC dX11_swap_83 rfl (by decide) (by decide) ?_
  obtain ⟨v1, hq, h⟩ := h
  refine st_invV (As := []) (v := [iV v1]) (S := [iV x9]) (pc := 84) hC dX11_swap_84 cl_11_193 rfl rfl (Nat.le_of_ble_eq_true rfl) cr_X11_coins hq ?_
  refine st_icmp_ge (tg := 211) (pc := 87) hC dX11_swap_87 (by decide) (ite_im h (fun h => ?_) (fun h => ?_))
  · refine st_iload (pc := 90) hC dX11_swap_90 rfl ?_
    refine st_iload (pc := 92) hC dX11_swap_92 rfl ?_
    refine st_icmp_eq (tg := 205) (pc := 94) hC dX11_swap_94 (by decide) (ite_im h (fun h => ?_) (fun h => ?_))
    · refine st_iinc (L2 := [rV 20 66, iV x1, iV x2, iV x3, iV x4, iV x5, lV x6, uV, iV x8, iV (w32 (x9 + 1)), uV, uV]) (pc := 205) hC dX11_swap_205 rfl (Nat.le_of_ble_eq_true rfl) rfl ?_
      refine st_goto (tg := 81) (pc := 208) hC dX11_swap_208 (by decide) ?_
      exact h
    · refine st_aload_n (pc := 97) hC dX11_swap_97 rfl (by decide) (by decide) ?_
      refine st_iload_n (pc := 98) hC dX11_swap_98 rfl ?_
      refine st_iload (pc := 99) hC dX11_swap_99 rfl ?_
      obtain ⟨v2, hq, h⟩ := h
      refine st_invV (As := [iV x1, iV x8]) (v := [iV v2]) (S := []) (pc := 101) hC dX11_swap_101 cl_11_196 rfl rfl (Nat.le_of_ble_eq_true rfl) cr_X11_of hq ?_
      refine st_if_eq (tg := 205) (pc := 104) hC dX11_swap_104 (by decide) (ite_im h (fun h => ?_) (fun h => ?_))
      · refine st_iinc (L2 := [rV 20 66, iV x1, iV x2, iV x3, iV x4, iV x5, lV x6, uV, iV x8, iV (w32 (x9 + 1)), uV, uV]) (pc := 205) hC dX11_swap_205 rfl (Nat.le_of_ble_eq_true rfl) rfl ?_
        refine st_goto (tg := 81) (pc := 208) hC dX11_swap_208 (by decide) ?_
        exact h
      · refine st_aload_n (pc := 107) hC dX11_swap_107 rfl (by decide) (by decide) ?_
        refine st_iload_n (pc := 108) hC dX11_swap_108 rfl ?_
        refine st_iload (pc := 109) hC dX11_swap_109 rfl ?_
        obtain ⟨v3, hq, h⟩ := h
        refine st_invV (As := [iV x2, iV x9]) (v := [iV v3]) (S := []) (pc := 111) hC dX11_swap_111 cl_11_196 rfl rfl (Nat.le_of_ble_eq_true rfl) cr_X11_of hq ?_
        refine st_if_ne (tg := 120) (pc := 114) hC dX11_swap_114 (by decide) (ite_im h (fun h => ?_) (fun h => ?_))
        · refine st_goto (tg := 205) (pc := 117) hC dX11_swap_117 (by decide) ?_
          refine st_iinc (L2 := [rV 20 66, iV x1, iV x2, iV x3, iV x4, iV x5, lV x6, uV, iV x8, iV (w32 (x9 + 1)), uV, uV]) (pc := 205) hC dX11_swap_205 rfl (Nat.le_of_ble_eq_true rfl) rfl ?_
          refine st_goto (tg := 81) (pc := 208) hC dX11_swap_208 (by decide) ?_
          exact h
        · refine st_aload_n (pc := 120) hC dX11_swap_120 rfl (by decide) (by decide) ?_
          refine st_iload_n (pc := 121) hC dX11_swap_121 rfl ?_
          obtain ⟨v4, hq, h⟩ := h
          refine st_invV (As := [iV x1]) (v := [lV v4]) (S := []) (pc := 122) hC dX11_swap_122 cl_11_220 rfl rfl (Nat.le_of_ble_eq_true rfl) cr_X11_worthOf hq ?_
          refine st_aload_n (pc := 125) hC dX11_swap_125 rfl (by decide) (by decide) ?_
          refine st_iload (pc := 126) hC dX11_swap_126 rfl ?_
          obtain ⟨v5, hq, h⟩ := h
          refine st_invV (As := [iV x8]) (v := [iV v5]) (S := [lV v4]) (pc := 128) hC dX11_swap_128 cl_11_200 rfl rfl (Nat.le_of_ble_eq_true rfl) cr_X11_prime hq ?_
          refine st_i2l (pc := 131) hC dX11_swap_131 ?_
          obtain ⟨h0, h⟩ := h
          refine st_ldiv (pc := 132) hC dX11_swap_132 h0 ?_
          refine st_aload_n (pc := 133) hC dX11_swap_133 rfl (by decide) (by decide) ?_
          refine st_iload (pc := 134) hC dX11_swap_134 rfl ?_
          obtain ⟨v6, hq, h⟩ := h
          refine st_invV (As := [iV x9]) (v := [iV v6]) (S := [lV (w64 (v4.tdiv v5))]) (pc := 136) hC dX11_swap_136 cl_11_200 rfl rfl (Nat.le_of_ble_eq_true rfl) cr_X11_prime hq ?_
          refine st_i2l (pc := 139) hC dX11_swap_139 ?_
          refine st_lmul (pc := 140) hC dX11_swap_140 ?_
          refine st_aload_n (pc := 141) hC dX11_swap_141 rfl (by decide) (by decide) ?_
          refine st_iload_n (pc := 142) hC dX11_swap_142 rfl ?_
          obtain ⟨v7, hq, h⟩ := h
          refine st_invV (As := [iV x2]) (v := [lV v7]) (S := [lV (w64 ((w64 (v4.tdiv v5)) * v6))]) (pc := 143) hC dX11_swap_143 cl_11_220 rfl rfl (Nat.le_of_ble_eq_true rfl) cr_X11_worthOf hq ?_
          refine st_aload_n (pc := 146) hC dX11_swap_146 rfl (by decide) (by decide) ?_
          refine st_iload (pc := 147) hC dX11_swap_147 rfl ?_
          obtain ⟨v8, hq, h⟩ := h
          refine st_invV (As := [iV x9]) (v := [iV v8]) (S := [lV v7, lV (w64 ((w64 (v4.tdiv v5)) * v6))]) (pc := 149) hC dX11_swap_149 cl_11_200 rfl rfl (Nat.le_of_ble_eq_true rfl) cr_X11_prime hq ?_
          refine st_i2l (pc := 152) hC dX11_swap_152 ?_
          obtain ⟨h0, h⟩ := h
          refine st_ldiv (pc := 153) hC dX11_swap_153 h0 ?_
          refine st_aload_n (pc := 154) hC dX11_swap_154 rfl (by decide) (by decide) ?_
          refine st_iload (pc := 155) hC dX11_swap_155 rfl ?_
          obtain ⟨v9, hq, h⟩ := h
          refine st_invV (As := [iV x8]) (v := [iV v9]) (S := [lV (w64 (v7.tdiv v8)), lV (w64 ((w64 (v4.tdiv v5)) * v6))]) (pc := 157) hC dX11_swap_157 cl_11_200 rfl rfl (Nat.le_of_ble_eq_true rfl) cr_X11_prime hq ?_
          refine st_i2l (pc := 160) hC dX11_swap_160 ?_
          refine st_lmul (pc := 161) hC dX11_swap_161 ?_
          refine st_lsub (pc := 162) hC dX11_swap_162 ?_
          refine st_labs (pc := 163) hC dX11_swap_163 rfl (Nat.le_of_ble_eq_true rfl) ?_
          refine st_lstore (L2 := [rV 20 66, iV x1, iV x2, iV x3, iV x4, iV x5, lV x6, uV, iV x8, iV x9, lV (absI (w64 ((w64 ((w64 (v4.tdiv v5)) * v6)) - (w64 ((w64 (v7.tdiv v8)) * v9))))), uV]) (pc := 166) hC dX11_swap_166 (Nat.le_of_ble_eq_true rfl) rfl ?_
          refine st_iload (pc := 168) hC dX11_swap_168 rfl ?_
          refine st_iconst (pc := 170) hC dX11_swap_170 (by decide) ?_
          refine st_icmp_eq (tg := 185) (pc := 171) hC dX11_swap_171 (by decide) (ite_im h (fun h => ?_) (fun h => ?_))
          · refine st_aload_n (pc := 185) hC dX11_swap_185 rfl (by decide) (by decide) ?_
            refine st_iload (pc := 186) hC dX11_swap_186 rfl ?_
            obtain ⟨v10, hq, h⟩ := h
            refine st_invV (As := [iV x8]) (v := [iV v10]) (S := []) (pc := 188) hC dX11_swap_188 cl_11_200 rfl rfl (Nat.le_of_ble_eq_true rfl) cr_X11_prime hq ?_
            refine st_istore (L2 := [rV 20 66, iV x1, iV x2, iV x3, iV v10, iV x5, lV x6, uV, iV x8, iV x9, lV (absI (w64 ((w64 ((w64 (v4.tdiv v5)) * v6)) - (w64 ((w64 (v7.tdiv v8)) * v9))))), uV]) (pc := 191) hC dX11_swap_191 (Nat.le_of_ble_eq_true rfl) rfl ?_
            refine st_aload_n (pc := 193) hC dX11_swap_193 rfl (by decide) (by decide) ?_
            refine st_iload (pc := 194) hC dX11_swap_194 rfl ?_
            obtain ⟨v11, hq, h⟩ := h
            refine st_invV (As := [iV x9]) (v := [iV v11]) (S := []) (pc := 196) hC dX11_swap_196 cl_11_200 rfl rfl (Nat.le_of_ble_eq_true rfl) cr_X11_prime hq ?_
            refine st_istore (L2 := [rV 20 66, iV x1, iV x2, iV x3, iV v10, iV v11, lV x6, uV, iV x8, iV x9, lV (absI (w64 ((w64 ((w64 (v4.tdiv v5)) * v6)) - (w64 ((w64 (v7.tdiv v8)) * v9))))), uV]) (pc := 199) hC dX11_swap_199 (Nat.le_of_ble_eq_true rfl) rfl ?_
            refine st_lload (pc := 201) hC dX11_swap_201 rfl ?_
            refine st_lstore (L2 := [rV 20 66, iV x1, iV x2, iV x3, iV v10, iV v11, lV (absI (w64 ((w64 ((w64 (v4.tdiv v5)) * v6)) - (w64 ((w64 (v7.tdiv v8)) * v9))))), uV, iV x8, iV x9, lV (absI (w64 ((w64 ((w64 (v4.tdiv v5)) * v6)) - (w64 ((w64 (v7.tdiv v8)) * v9))))), uV]) (pc := 203) hC dX11_swap_203 (Nat.le_of_ble_eq_true rfl) rfl ?_
            refine st_iinc (L2 := [rV 20 66, iV x1, iV x2, iV x3, iV v10, iV v11, lV (absI (w64 ((w64 ((w64 (v4.tdiv v5)) * v6)) - (w64 ((w64 (v7.tdiv v8)) * v9))))), uV, iV x8, iV (w32 (x9 + 1)), lV (absI (w64 ((w64 ((w64 (v4.tdiv v5)) * v6)) - (w64 ((w64 (v7.tdiv v8)) * v9))))), uV]) (pc := 205) hC dX11_swap_205 rfl (Nat.le_of_ble_eq_true rfl) rfl ?_
            refine st_goto (tg := 81) (pc := 208) hC dX11_swap_208 (by decide) ?_
            exact st_fg (L2 := [rV 20 66, iV x1, iV x2, iV x3, iV v10, iV v11, lV (absI (w64 ((w64 ((w64 (v4.tdiv v5)) * v6)) - (w64 ((w64 (v7.tdiv v8)) * v9))))), uV, iV x8, iV (w32 (x9 + 1)), uV, uV]) hC ⟨Or.inl rfl, Or.inl rfl, Or.inl rfl, Or.inl rfl, Or.inl rfl, Or.inl rfl, Or.inl rfl, Or.inl rfl, Or.inl rfl, Or.inl rfl, Or.inr rfl, Or.inl rfl, trivial⟩ h
          · refine st_lload (pc := 174) hC dX11_swap_174 rfl ?_
            refine st_lload (pc := 176) hC dX11_swap_176 rfl ?_
            refine st_lcmp_lt (tg := 185) (pc := 178) hC dX11_swap_178 dX11_swap_179 (by decide) (ite_im h (fun h => ?_) (fun h => ?_))
            · refine st_aload_n (pc := 185) hC dX11_swap_185 rfl (by decide) (by decide) ?_
              refine st_iload (pc := 186) hC dX11_swap_186 rfl ?_
              obtain ⟨v12, hq, h⟩ := h
              refine st_invV (As := [iV x8]) (v := [iV v12]) (S := []) (pc := 188) hC dX11_swap_188 cl_11_200 rfl rfl (Nat.le_of_ble_eq_true rfl) cr_X11_prime hq ?_
              refine st_istore (L2 := [rV 20 66, iV x1, iV x2, iV x3, iV v12, iV x5, lV x6, uV, iV x8, iV x9, lV (absI (w64 ((w64 ((w64 (v4.tdiv v5)) * v6)) - (w64 ((w64 (v7.tdiv v8)) * v9))))), uV]) (pc := 191) hC dX11_swap_191 (Nat.le_of_ble_eq_true rfl) rfl ?_
              refine st_aload_n (pc := 193) hC dX11_swap_193 rfl (by decide) (by decide) ?_
              refine st_iload (pc := 194) hC dX11_swap_194 rfl ?_
              obtain ⟨v13, hq, h⟩ := h
              refine st_invV (As := [iV x9]) (v := [iV v13]) (S := []) (pc := 196) hC dX11_swap_196 cl_11_200 rfl rfl (Nat.le_of_ble_eq_true rfl) cr_X11_prime hq ?_
              refine st_istore (L2 := [rV 20 66, iV x1, iV x2, iV x3, iV v12, iV v13, lV x6, uV, iV x8, iV x9, lV (absI (w64 ((w64 ((w64 (v4.tdiv v5)) * v6)) - (w64 ((w64 (v7.tdiv v8)) * v9))))), uV]) (pc := 199) hC dX11_swap_199 (Nat.le_of_ble_eq_true rfl) rfl ?_
              refine st_lload (pc := 201) hC dX11_swap_201 rfl ?_
              refine st_lstore (L2 := [rV 20 66, iV x1, iV x2, iV x3, iV v12, iV v13, lV (absI (w64 ((w64 ((w64 (v4.tdiv v5)) * v6)) - (w64 ((w64 (v7.tdiv v8)) * v9))))), uV, iV x8, iV x9, lV (absI (w64 ((w64 ((w64 (v4.tdiv v5)) * v6)) - (w64 ((w64 (v7.tdiv v8)) * v9))))), uV]) (pc := 203) hC dX11_swap_203 (Nat.le_of_ble_eq_true rfl) rfl ?_
              refine st_iinc (L2 := [rV 20 66, iV x1, iV x2, iV x3, iV v12, iV v13, lV (absI (w64 ((w64 ((w64 (v4.tdiv v5)) * v6)) - (w64 ((w64 (v7.tdiv v8)) * v9))))), uV, iV x8, iV (w32 (x9 + 1)), lV (absI (w64 ((w64 ((w64 (v4.tdiv v5)) * v6)) - (w64 ((w64 (v7.tdiv v8)) * v9))))), uV]) (pc := 205) hC dX11_swap_205 rfl (Nat.le_of_ble_eq_true rfl) rfl ?_
              refine st_goto (tg := 81) (pc := 208) hC dX11_swap_208 (by decide) ?_
              exact st_fg (L2 := [rV 20 66, iV x1, iV x2, iV x3, iV v12, iV v13, lV (absI (w64 ((w64 ((w64 (v4.tdiv v5)) * v6)) - (w64 ((w64 (v7.tdiv v8)) * v9))))), uV, iV x8, iV (w32 (x9 + 1)), uV, uV]) hC ⟨Or.inl rfl, Or.inl rfl, Or.inl rfl, Or.inl rfl, Or.inl rfl, Or.inl rfl, Or.inl rfl, Or.inl rfl, Or.inl rfl, Or.inl rfl, Or.inr rfl, Or.inl rfl, trivial⟩ h
            · refine st_goto (tg := 205) (pc := 182) hC dX11_swap_182 (by decide) ?_
              refine st_iinc (L2 := [rV 20 66, iV x1, iV x2, iV x3, iV x4, iV x5, lV x6, uV, iV x8, iV (w32 (x9 + 1)), lV (absI (w64 ((w64 ((w64 (v4.tdiv v5)) * v6)) - (w64 ((w64 (v7.tdiv v8)) * v9))))), uV]) (pc := 205) hC dX11_swap_205 rfl (Nat.le_of_ble_eq_true rfl) rfl ?_
              refine st_goto (tg := 81) (pc := 208) hC dX11_swap_208 (by decide) ?_
              exact st_fg (L2 := [rV 20 66, iV x1, iV x2, iV x3, iV x4, iV x5, lV x6, uV, iV x8, iV (w32 (x9 + 1)), uV, uV]) hC ⟨Or.inl rfl, Or.inl rfl, Or.inl rfl, Or.inl rfl, Or.inl rfl, Or.inl rfl, Or.inl rfl, Or.inl rfl, Or.inl rfl, Or.inl rfl, Or.inr rfl, Or.inl rfl, trivial⟩ h
  · refine st_iinc (L2 := [rV 20 66, iV x1, iV x2, iV x3, iV x4, iV x5, lV x6, uV, iV (w32 (x8 + 1)), iV x9, uV, uV]) (pc := 211) hC dX11_swap_211 rfl (Nat.le_of_ble_eq_true rfl) rfl ?_
    refine st_goto (tg := 69) (pc := 214) hC dX11_swap_214 (by decide) ?_
    exact st_fg (L2 := [rV 20 66, iV x1, iV x2, iV x3, iV x4, iV x5, lV x6, uV, iV (w32 (x8 + 1)), uV, uV, uV]) hC ⟨Or.inl rfl, Or.inl rfl, Or.inl rfl, Or.inl rfl, Or.inl rfl, Or.inl rfl, Or.inl rfl, Or.inl rfl, Or.inl rfl, Or.inr rfl, Or.inl rfl, Or.inl rfl, trivial⟩ h
theorem bX11_haveAll_0 {C : Nat → List Vv → Sg → Rs → Sg → Prop} {X : Nat → List Vv → List Vv → Sg → Prop} {Xr : List Vv → Sg → Prop} {Xt : Nat → Sg → Prop} (hC : Clo C 11 cX11_haveAll (some .boolean) X Xr Xt) {x1 : Int} {σ : Sg} (h : X 2 [rV 20 66, iV x1, iV 0, uV, uV] [] σ) : X 0 [rV 20 66, iV x1, uV, uV, uV] [] σ := by
  refine st_iconst (pc := 0) hC dX11_haveAll_0 (by decide) ?_
  refine st_istore_n (L2 := [rV 20 66, iV x1, iV 0, uV, uV]) (pc := 1) hC dX11_haveAll_1 (Nat.le_of_ble_eq_true rfl) rfl ?_
  exact h
theorem bX11_haveAll_2 {C : Nat → List Vv → Sg → Rs → Sg → Prop} {X : Nat → List Vv → List Vv → Sg → Prop} {Xr : List Vv → Sg → Prop} {Xt : Nat → Sg → Prop} (hC : Clo C 11 cX11_haveAll (some .boolean) X Xr Xt) {x1 x2 : Int} {σ : Sg} (h : ∃ v1 : Int, C MX11_coins [rV 20 66] σ (.inl [iV v1]) σ ∧ (if x2 < v1 then (X 15 [rV 20 66, iV x1, iV x2, iV 0, iV 0] [] σ) else (Xr [iV 1] σ))) : X 2 [rV 20 66, iV x1, iV x2, uV, uV] [] σ := by
  refine st_iload_n (pc := 2) hC dX11_haveAll_2 rfl ?_
  refine st_aload_n (pc := 3) hC dX11_haveAll_3 rfl (by decide) (by decide) ?_
  obtain ⟨v1, hq, h⟩ := h
  refine st_invV (As := []) (v := [iV v1]) (S := [iV x2]) (pc := 4) hC dX11_haveAll_4 cl_11_193 rfl rfl (Nat.le_of_ble_eq_true rfl) cr_X11_coins hq ?_
  refine st_icmp_ge (tg := 72) (pc := 7) hC dX11_haveAll_7 (by decide) (ite_im h (fun h => ?_) (fun h => ?_))
  · refine st_iconst (pc := 10) hC dX11_haveAll_10 (by decide) ?_
    refine st_istore_n (L2 := [rV 20 66, iV x1, iV x2, iV 0, uV]) (pc := 11) hC dX11_haveAll_11 (Nat.le_of_ble_eq_true rfl) rfl ?_
    refine st_iconst (pc := 12) hC dX11_haveAll_12 (by decide) ?_
    refine st_istore (L2 := [rV 20 66, iV x1, iV x2, iV 0, iV 0]) (pc := 13) hC dX11_haveAll_13 (Nat.le_of_ble_eq_true rfl) rfl ?_
    exact h
  · refine st_iconst (pc := 72) hC dX11_haveAll_72 (by decide) ?_
    exact st_ireturn (pc := 73) hC dX11_haveAll_73 (Or.inr rfl) h
theorem bX11_haveAll_15 {C : Nat → List Vv → Sg → Rs → Sg → Prop} {X : Nat → List Vv → List Vv → Sg → Prop} {Xr : List Vv → Sg → Prop} {Xt : Nat → Sg → Prop} (hC : Clo C 11 cX11_haveAll (some .boolean) X Xr Xt) {x1 x2 x3 x4 : Int} {σ : Sg} (h : ∃ v1 : Int, C MX11_people [rV 20 66] σ (.inl [iV v1]) σ ∧ (if x4 < v1 then (if (iandI (ishrI x1 x4) 1) = 1 then (∃ v2 : Int, C MX11_of [rV 20 66, iV x4, iV x2] σ (.inl [iV v2]) σ ∧ (X 15 [rV 20 66, iV x1, iV x2, iV (w32 (x3 + v2)), iV (w32 (x4 + 1))] [] σ)) else (X 15 [rV 20 66, iV x1, iV x2, iV (w32 (x3 + 0)), iV (w32 (x4 + 1))] [] σ)) else ((0 ≤ x2 ∧ x2 < 8) ∧ (if x3 < (σ 73 (x2).toNat) then (Xr [iV 0] σ) else (X 2 [rV 20 66, iV x1, iV (w32 (x2 + 1)), uV, uV] [] σ))))) : X 15 [rV 20 66, iV x1, iV x2, iV x3, iV x4] [] σ := by
  refine st_iload (pc := 15) hC dX11_haveAll_15 rfl ?_
  refine st_aload_n (pc := 17) hC dX11_haveAll_17 rfl (by decide) (by decide) ?_
  obtain ⟨v1, hq, h⟩ := h
  refine st_invV (As := []) (v := [iV v1]) (S := [iV x4]) (pc := 18) hC dX11_haveAll_18 cl_11_190 rfl rfl (Nat.le_of_ble_eq_true rfl) cr_X11_people hq ?_
  refine st_icmp_ge (tg := 54) (pc := 21) hC dX11_haveAll_21 (by decide) (ite_im h (fun h => ?_) (fun h => ?_))
  · refine st_iload_n (pc := 24) hC dX11_haveAll_24 rfl ?_
    refine st_iload_n (pc := 25) hC dX11_haveAll_25 rfl ?_
    refine st_iload (pc := 26) hC dX11_haveAll_26 rfl ?_
    refine st_ishr (pc := 28) hC dX11_haveAll_28 ?_
    refine st_iconst (pc := 29) hC dX11_haveAll_29 (by decide) ?_
    refine st_iand (pc := 30) hC dX11_haveAll_30 ?_
    refine st_iconst (pc := 31) hC dX11_haveAll_31 (by decide) ?_
    refine st_icmp_ne (tg := 45) (pc := 32) hC dX11_haveAll_32 (by decide) (ite_im h (fun h => ?_) (fun h => ?_))
    · refine st_aload_n (pc := 35) hC dX11_haveAll_35 rfl (by decide) (by decide) ?_
      refine st_iload (pc := 36) hC dX11_haveAll_36 rfl ?_
      refine st_iload_n (pc := 38) hC dX11_haveAll_38 rfl ?_
      obtain ⟨v2, hq, h⟩ := h
      refine st_invV (As := [iV x4, iV x2]) (v := [iV v2]) (S := [iV x3]) (pc := 39) hC dX11_haveAll_39 cl_11_196 rfl rfl (Nat.le_of_ble_eq_true rfl) cr_X11_of hq ?_
      refine st_goto (tg := 46) (pc := 42) hC dX11_haveAll_42 (by decide) ?_
      refine st_iadd (pc := 46) hC dX11_haveAll_46 ?_
      refine st_istore_n (L2 := [rV 20 66, iV x1, iV x2, iV (w32 (x3 + v2)), iV x4]) (pc := 47) hC dX11_haveAll_47 (Nat.le_of_ble_eq_true rfl) rfl ?_
      refine st_iinc (L2 := [rV 20 66, iV x1, iV x2, iV (w32 (x3 + v2)), iV (w32 (x4 + 1))]) (pc := 48) hC dX11_haveAll_48 rfl (Nat.le_of_ble_eq_true rfl) rfl ?_
      refine st_goto (tg := 15) (pc := 51) hC dX11_haveAll_51 (by decide) ?_
      exact h
    · refine st_iconst (pc := 45) hC dX11_haveAll_45 (by decide) ?_
      refine st_iadd (pc := 46) hC dX11_haveAll_46 ?_
      refine st_istore_n (L2 := [rV 20 66, iV x1, iV x2, iV (w32 (x3 + 0)), iV x4]) (pc := 47) hC dX11_haveAll_47 (Nat.le_of_ble_eq_true rfl) rfl ?_
      refine st_iinc (L2 := [rV 20 66, iV x1, iV x2, iV (w32 (x3 + 0)), iV (w32 (x4 + 1))]) (pc := 48) hC dX11_haveAll_48 rfl (Nat.le_of_ble_eq_true rfl) rfl ?_
      refine st_goto (tg := 15) (pc := 51) hC dX11_haveAll_51 (by decide) ?_
      exact h
  · refine st_iload_n (pc := 54) hC dX11_haveAll_54 rfl ?_
    refine st_aload_n (pc := 55) hC dX11_haveAll_55 rfl (by decide) (by decide) ?_
    refine st_getf (ci := 10) (f := 17) (v := rV 1000008 73) (pc := 56) hC dX11_haveAll_56 fl_11_33 rfl rfl ?_
    refine st_iload_n (pc := 59) hC dX11_haveAll_59 rfl ?_
    obtain ⟨hb, h⟩ := h
    refine st_iald (n := 8) (pc := 60) hC dX11_haveAll_60 (by decide) hb ?_
    refine st_icmp_ge (tg := 66) (pc := 61) hC dX11_haveAll_61 (by decide) (ite_im h (fun h => ?_) (fun h => ?_))
    · refine st_iconst (pc := 64) hC dX11_haveAll_64 (by decide) ?_
      exact st_ireturn (pc := 65) hC dX11_haveAll_65 (Or.inl rfl) h
    · refine st_iinc (L2 := [rV 20 66, iV x1, iV (w32 (x2 + 1)), iV x3, iV x4]) (pc := 66) hC dX11_haveAll_66 rfl (Nat.le_of_ble_eq_true rfl) rfl ?_
      refine st_goto (tg := 2) (pc := 69) hC dX11_haveAll_69 (by decide) ?_
      exact st_fg (L2 := [rV 20 66, iV x1, iV (w32 (x2 + 1)), uV, uV]) hC ⟨Or.inl rfl, Or.inl rfl, Or.inl rfl, Or.inr rfl, Or.inr rfl, trivial⟩ h
theorem bX11_bits_0 {C : Nat → List Vv → Sg → Rs → Sg → Prop} {X : Nat → List Vv → List Vv → Sg → Prop} {Xr : List Vv → Sg → Prop} {Xt : Nat → Sg → Prop} (hC : Clo C 11 cX11_bits (some .int) X Xr Xt) {x0 : Int} {σ : Sg} (h : X 4 [iV x0, iV 0, iV x0] [] σ) : X 0 [iV x0, uV, uV] [] σ := by
  refine st_iconst (pc := 0) hC dX11_bits_0 (by decide) ?_
  refine st_istore_n (L2 := [iV x0, iV 0, uV]) (pc := 1) hC dX11_bits_1 (Nat.le_of_ble_eq_true rfl) rfl ?_
  refine st_iload_n (pc := 2) hC dX11_bits_2 rfl ?_
  refine st_istore_n (L2 := [iV x0, iV 0, iV x0]) (pc := 3) hC dX11_bits_3 (Nat.le_of_ble_eq_true rfl) rfl ?_
  exact h
theorem bX11_bits_4 {C : Nat → List Vv → Sg → Rs → Sg → Prop} {X : Nat → List Vv → List Vv → Sg → Prop} {Xr : List Vv → Sg → Prop} {Xt : Nat → Sg → Prop} (hC : Clo C 11 cX11_bits (some .int) X Xr Xt) {x0 x1 x2 : Int} {σ : Sg} (h : if x2 = 0 then (Xr [iV x1] σ) else (X 4 [iV x0, iV (w32 (x1 + 1)), iV (iandI x2 (w32 (x2 - 1)))] [] σ)) : X 4 [iV x0, iV x1, iV x2] [] σ := by
  refine st_iload_n (pc := 4) hC dX11_bits_4 rfl ?_
  refine st_if_eq (tg := 20) (pc := 5) hC dX11_bits_5 (by decide) (ite_im h (fun h => ?_) (fun h => ?_))
  · refine st_iload_n (pc := 20) hC dX11_bits_20 rfl ?_
    exact st_ireturn (pc := 21) hC dX11_bits_21 trivial h
  · refine st_iinc (L2 := [iV x0, iV (w32 (x1 + 1)), iV x2]) (pc := 8) hC dX11_bits_8 rfl (Nat.le_of_ble_eq_true rfl) rfl ?_
    refine st_iload_n (pc := 11) hC dX11_bits_11 rfl ?_
    refine st_iload_n (pc := 12) hC dX11_bits_12 rfl ?_
    refine st_iconst (pc := 13) hC dX11_bits_13 (by decide) ?_
    refine st_isub (pc := 14) hC dX11_bits_14 ?_
    refine st_iand (pc := 15) hC dX11_bits_15 ?_
    refine st_istore_n (L2 := [iV x0, iV (w32 (x1 + 1)), iV (iandI x2 (w32 (x2 - 1)))]) (pc := 16) hC dX11_bits_16 (Nat.le_of_ble_eq_true rfl) rfl ?_
    refine st_goto (tg := 4) (pc := 17) hC dX11_bits_17 (by decide) ?_
    exact h
theorem bX11_together_0 {C : Nat → List Vv → Sg → Rs → Sg → Prop} {X : Nat → List Vv → List Vv → Sg → Prop} {Xr : List Vv → Sg → Prop} {Xt : Nat → Sg → Prop} (hC : Clo C 11 cX11_together (some .int) X Xr Xt) {x1 x2 x4 : Int} {σ : Sg} (h : ∃ v1 : Int, C MX11_people [rV 20 66] σ (.inl [iV v1]) σ ∧ (∃ v2 : Int, C MX11_within [lV x1, lV 0, lV (w32 ((ishlI 1 v1) - 1))] σ (.inl [iV v2]) σ ∧ (if v2 = 0 then (if (0 : Int) < ((upS σ 66 5 1) 66 5) then (Xr [iV 0] (upS σ 66 5 1)) else (X 73 [rV 20 66, iV x1, lV x2, uV, iV x4, iV 0, iV (-1), iV 0] [] (upS σ 66 5 1))) else (∃ v3 : Int, C MX11_within [lV x4, lV 0, lV 1] σ (.inl [iV v3]) σ ∧ (if v3 = 0 then (if (0 : Int) < ((upS σ 66 5 1) 66 5) then (Xr [iV 0] (upS σ 66 5 1)) else (X 73 [rV 20 66, iV x1, lV x2, uV, iV x4, iV 0, iV (-1), iV 0] [] (upS σ 66 5 1))) else (∃ v4 : Int, ∃ σ4 : Sg, C MX11_laysPrice [rV 20 66, lV x2] σ (.inl [iV v4]) σ4 ∧ (if v4 = 0 then (if (0 : Int) < ((upS σ4 66 5 1) 66 5) then (Xr [iV 0] (upS σ4 66 5 1)) else (X 73 [rV 20 66, iV x1, lV x2, uV, iV x4, iV 1, iV (-1), iV 0] [] (upS σ4 66 5 1))) else (if (0 : Int) < ((upS σ4 66 5 0) 66 5) then (Xr [iV 0] (upS σ4 66 5 0)) else (X 73 [rV 20 66, iV x1, lV x2, uV, iV x4, iV 1, iV (-1), iV 0] [] (upS σ4 66 5 0)))))))))) : X 0 [rV 20 66, iV x1, lV x2, uV, iV x4, uV, uV, uV] [] σ := by
  refine st_iload_n (pc := 0) hC dX11_together_0 rfl ?_
  refine st_i2l (pc := 1) hC dX11_together_1 ?_
  refine st_lconst0 (pc := 2) hC dX11_together_2 ?_
  refine st_iconst (pc := 3) hC dX11_together_3 (by decide) ?_
  refine st_aload_n (pc := 4) hC dX11_together_4 rfl (by decide) (by decide) ?_
  obtain ⟨v1, hq, h⟩ := h
  refine st_invV (As := []) (v := [iV v1]) (S := [iV 1, lV 0, lV x1]) (pc := 5) hC dX11_together_5 cl_11_190 rfl rfl (Nat.le_of_ble_eq_true rfl) cr_X11_people hq ?_
  refine st_ishl (pc := 8) hC dX11_together_8 ?_
  refine st_iconst (pc := 9) hC dX11_together_9 (by decide) ?_
  refine st_isub (pc := 10) hC dX11_together_10 ?_
  refine st_i2l (pc := 11) hC dX11_together_11 ?_
  obtain ⟨v2, hq, h⟩ := h
  refine st_invS (As := [lV x1, lV 0, lV (w32 ((ishlI 1 v1) - 1))]) (v := [iV v2]) (S := []) (pc := 12) hC dX11_together_12 cl_11_133 rfl rfl (Nat.le_of_ble_eq_true rfl) hq ?_
  refine st_if_eq (tg := 33) (pc := 15) hC dX11_together_15 (by decide) (ite_im h (fun h => ?_) (fun h => ?_))
  · refine st_iconst (pc := 33) hC dX11_together_33 (by decide) ?_
    refine st_istore (L2 := [rV 20 66, iV x1, lV x2, uV, iV x4, iV 0, uV, uV]) (pc := 34) hC dX11_together_34 (Nat.le_of_ble_eq_true rfl) rfl ?_
    refine st_aload_n (pc := 36) hC dX11_together_36 rfl (by decide) (by decide) ?_
    refine st_iload (pc := 37) hC dX11_together_37 rfl ?_
    refine st_if_eq (tg := 54) (pc := 39) hC dX11_together_39 (by decide) ?_
    rw [if_pos (by decide)]
    refine st_iconst (pc := 54) hC dX11_together_54 (by decide) ?_
    refine st_putfI (ci := 10) (f := 5) (pc := 55) hC dX11_together_55 fl_11_64 rfl rfl ?_
    refine st_aload_n (pc := 58) hC dX11_together_58 rfl (by decide) (by decide) ?_
    refine st_getf (ci := 10) (f := 5) (v := iV ((upS σ 66 5 1) 66 5)) (pc := 59) hC dX11_together_59 fl_11_64 rfl rfl ?_
    refine st_if_le (tg := 67) (pc := 62) hC dX11_together_62 (by decide) (ite_im h (fun h => ?_) (fun h => ?_))
    · refine st_iconst (pc := 65) hC dX11_together_65 (by decide) ?_
      exact st_ireturn (pc := 66) hC dX11_together_66 trivial h
    · refine st_iconst (pc := 67) hC dX11_together_67 (by decide) ?_
      refine st_istore (L2 := [rV 20 66, iV x1, lV x2, uV, iV x4, iV 0, iV (-1), uV]) (pc := 68) hC dX11_together_68 (Nat.le_of_ble_eq_true rfl) rfl ?_
      refine st_iconst (pc := 70) hC dX11_together_70 (by decide) ?_
      refine st_istore (L2 := [rV 20 66, iV x1, lV x2, uV, iV x4, iV 0, iV (-1), iV 0]) (pc := 71) hC dX11_together_71 (Nat.le_of_ble_eq_true rfl) rfl ?_
      exact h
  · refine st_iload (pc := 18) hC dX11_together_18 rfl ?_
    refine st_i2l (pc := 20) hC dX11_together_20 ?_
    refine st_lconst0 (pc := 21) hC dX11_together_21 ?_
    refine st_lconst1 (pc := 22) hC dX11_together_22 ?_
    obtain ⟨v3, hq, h⟩ := h
    refine st_invS (As := [lV x4, lV 0, lV 1]) (v := [iV v3]) (S := []) (pc := 23) hC dX11_together_23 cl_11_133 rfl rfl (Nat.le_of_ble_eq_true rfl) hq ?_
    refine st_if_eq (tg := 33) (pc := 26) hC dX11_together_26 (by decide) (ite_im h (fun h => ?_) (fun h => ?_))
    · refine st_iconst (pc := 33) hC dX11_together_33 (by decide) ?_
      refine st_istore (L2 := [rV 20 66, iV x1, lV x2, uV, iV x4, iV 0, uV, uV]) (pc := 34) hC dX11_together_34 (Nat.le_of_ble_eq_true rfl) rfl ?_
      refine st_aload_n (pc := 36) hC dX11_together_36 rfl (by decide) (by decide) ?_
      refine st_iload (pc := 37) hC dX11_together_37 rfl ?_
      refine st_if_eq (tg := 54) (pc := 39) hC dX11_together_39 (by decide) ?_
      rw [if_pos (by decide)]
      refine st_iconst (pc := 54) hC dX11_together_54 (by decide) ?_
      refine st_putfI (ci := 10) (f := 5) (pc := 55) hC dX11_together_55 fl_11_64 rfl rfl ?_
      refine st_aload_n (pc := 58) hC dX11_together_58 rfl (by decide) (by decide) ?_
      refine st_getf (ci := 10) (f := 5) (v := iV ((upS σ 66 5 1) 66 5)) (pc := 59) hC dX11_together_59 fl_11_64 rfl rfl ?_
      refine st_if_le (tg := 67) (pc := 62) hC dX11_together_62 (by decide) (ite_im h (fun h => ?_) (fun h => ?_))
      · refine st_iconst (pc := 65) hC dX11_together_65 (by decide) ?_
        exact st_ireturn (pc := 66) hC dX11_together_66 trivial h
      · refine st_iconst (pc := 67) hC dX11_together_67 (by decide) ?_
        refine st_istore (L2 := [rV 20 66, iV x1, lV x2, uV, iV x4, iV 0, iV (-1), uV]) (pc := 68) hC dX11_together_68 (Nat.le_of_ble_eq_true rfl) rfl ?_
        refine st_iconst (pc := 70) hC dX11_together_70 (by decide) ?_
        refine st_istore (L2 := [rV 20 66, iV x1, lV x2, uV, iV x4, iV 0, iV (-1), iV 0]) (pc := 71) hC dX11_together_71 (Nat.le_of_ble_eq_true rfl) rfl ?_
        exact h
    · refine st_iconst (pc := 29) hC dX11_together_29 (by decide) ?_
      refine st_goto (tg := 34) (pc := 30) hC dX11_together_30 (by decide) ?_
      refine st_istore (L2 := [rV 20 66, iV x1, lV x2, uV, iV x4, iV 1, uV, uV]) (pc := 34) hC dX11_together_34 (Nat.le_of_ble_eq_true rfl) rfl ?_
      refine st_aload_n (pc := 36) hC dX11_together_36 rfl (by decide) (by decide) ?_
      refine st_iload (pc := 37) hC dX11_together_37 rfl ?_
      refine st_if_eq (tg := 54) (pc := 39) hC dX11_together_39 (by decide) ?_
      rw [if_neg (by decide)]
      refine st_aload_n (pc := 42) hC dX11_together_42 rfl (by decide) (by decide) ?_
      refine st_lload_n (pc := 43) hC dX11_together_43 rfl ?_
      obtain ⟨v4, σ4, hq, h⟩ := h
      refine st_invV (As := [lV x2]) (v := [iV v4]) (S := [rV 20 66]) (pc := 44) hC dX11_together_44 cl_11_224 rfl rfl (Nat.le_of_ble_eq_true rfl) cr_X11_laysPrice hq ?_
      refine st_if_eq (tg := 54) (pc := 47) hC dX11_together_47 (by decide) (ite_im h (fun h => ?_) (fun h => ?_))
      · refine st_iconst (pc := 54) hC dX11_together_54 (by decide) ?_
        refine st_putfI (ci := 10) (f := 5) (pc := 55) hC dX11_together_55 fl_11_64 rfl rfl ?_
        refine st_aload_n (pc := 58) hC dX11_together_58 rfl (by decide) (by decide) ?_
        refine st_getf (ci := 10) (f := 5) (v := iV ((upS σ4 66 5 1) 66 5)) (pc := 59) hC dX11_together_59 fl_11_64 rfl rfl ?_
        refine st_if_le (tg := 67) (pc := 62) hC dX11_together_62 (by decide) (ite_im h (fun h => ?_) (fun h => ?_))
        · refine st_iconst (pc := 65) hC dX11_together_65 (by decide) ?_
          exact st_ireturn (pc := 66) hC dX11_together_66 trivial h
        · refine st_iconst (pc := 67) hC dX11_together_67 (by decide) ?_
          refine st_istore (L2 := [rV 20 66, iV x1, lV x2, uV, iV x4, iV 1, iV (-1), uV]) (pc := 68) hC dX11_together_68 (Nat.le_of_ble_eq_true rfl) rfl ?_
          refine st_iconst (pc := 70) hC dX11_together_70 (by decide) ?_
          refine st_istore (L2 := [rV 20 66, iV x1, lV x2, uV, iV x4, iV 1, iV (-1), iV 0]) (pc := 71) hC dX11_together_71 (Nat.le_of_ble_eq_true rfl) rfl ?_
          exact h
      · refine st_iconst (pc := 50) hC dX11_together_50 (by decide) ?_
        refine st_goto (tg := 55) (pc := 51) hC dX11_together_51 (by decide) ?_
        refine st_putfI (ci := 10) (f := 5) (pc := 55) hC dX11_together_55 fl_11_64 rfl rfl ?_
        refine st_aload_n (pc := 58) hC dX11_together_58 rfl (by decide) (by decide) ?_
        refine st_getf (ci := 10) (f := 5) (v := iV ((upS σ4 66 5 0) 66 5)) (pc := 59) hC dX11_together_59 fl_11_64 rfl rfl ?_
        refine st_if_le (tg := 67) (pc := 62) hC dX11_together_62 (by decide) (ite_im h (fun h => ?_) (fun h => ?_))
        · refine st_iconst (pc := 65) hC dX11_together_65 (by decide) ?_
          exact st_ireturn (pc := 66) hC dX11_together_66 trivial h
        · refine st_iconst (pc := 67) hC dX11_together_67 (by decide) ?_
          refine st_istore (L2 := [rV 20 66, iV x1, lV x2, uV, iV x4, iV 1, iV (-1), uV]) (pc := 68) hC dX11_together_68 (Nat.le_of_ble_eq_true rfl) rfl ?_
          refine st_iconst (pc := 70) hC dX11_together_70 (by decide) ?_
          refine st_istore (L2 := [rV 20 66, iV x1, lV x2, uV, iV x4, iV 1, iV (-1), iV 0]) (pc := 71) hC dX11_together_71 (Nat.le_of_ble_eq_true rfl) rfl ?_
          exact h
theorem bX11_together_73 {C : Nat → List Vv → Sg → Rs → Sg → Prop} {X : Nat → List Vv → List Vv → Sg → Prop} {Xr : List Vv → Sg → Prop} {Xt : Nat → Sg → Prop} (hC : Clo C 11 cX11_together (some .int) X Xr Xt) {x1 x2 x4 x5 x6 x7 : Int} {σ : Sg} (h : if x1 < x7 then (if x6 = (-1) then (Xr [iV (-1)] σ) else (if x4 = 0 then (∃ v1 : Int, C MX11_bits [iV x6] σ (.inl [iV v1]) σ ∧ (Xr [iV v1] σ)) else (Xr [iV x6] σ))) else (if (iandI x7 (ixorI x1 (-1))) = 0 then (if x6 = (-1) then (∃ v2 : Int, C MX11_haveAll [rV 20 66, iV x7] σ (.inl [iV v2]) σ ∧ (if v2 = 0 then (X 73 [rV 20 66, iV x1, lV x2, uV, iV x4, iV x5, iV x6, iV (w32 (x7 + 1))] [] σ) else (X 73 [rV 20 66, iV x1, lV x2, uV, iV x4, iV x5, iV x7, iV (w32 (x7 + 1))] [] σ))) else (∃ v3 : Int, C MX11_bits [iV x7] σ (.inl [iV v3]) σ ∧ (∃ v4 : Int, C MX11_bits [iV x6] σ (.inl [iV v4]) σ ∧ (if v3 < v4 then (∃ v5 : Int, C MX11_haveAll [rV 20 66, iV x7] σ (.inl [iV v5]) σ ∧ (if v5 = 0 then (X 73 [rV 20 66, iV x1, lV x2, uV, iV x4, iV x5, iV x6, iV (w32 (x7 + 1))] [] σ) else (X 73 [rV 20 66, iV x1, lV x2, uV, iV x4, iV x5, iV x7, iV (w32 (x7 + 1))] [] σ))) else (X 73 [rV 20 66, iV x1, lV x2, uV, iV x4, iV x5, iV x6, iV (w32 (x7 + 1))] [] σ))))) else (X 73 [rV 20 66, iV x1, lV x2, uV, iV x4, iV x5, iV x6, iV (w32 (x7 + 1))] [] σ))) : X 73 [rV 20 66, iV x1, lV x2, uV, iV x4, iV x5, iV x6, iV x7] [] σ := by
  refine st_iload (pc := 73) hC dX11_together_73 rfl ?_
  refine st_iload_n (pc := 75) hC dX11_together_75 rfl ?_
  refine st_icmp_gt (tg := 126) (pc := 76) hC dX11_together_76 (by decide) (ite_im h (fun h => ?_) (fun h => ?_))
  · refine st_iload (pc := 126) hC dX11_together_126 rfl ?_
    refine st_iconst (pc := 128) hC dX11_together_128 (by decide) ?_
    refine st_icmp_ne (tg := 136) (pc := 129) hC dX11_together_129 (by decide) (ite_im h (fun h => ?_) (fun h => ?_))
    · refine st_iconst (pc := 132) hC dX11_together_132 (by decide) ?_
      refine st_goto (tg := 151) (pc := 133) hC dX11_together_133 (by decide) ?_
      exact st_ireturn (pc := 151) hC dX11_together_151 trivial h
    · refine st_iload (pc := 136) hC dX11_together_136 rfl ?_
      refine st_if_ne (tg := 149) (pc := 138) hC dX11_together_138 (by decide) (ite_im h (fun h => ?_) (fun h => ?_))
      · refine st_iload (pc := 141) hC dX11_together_141 rfl ?_
        obtain ⟨v1, hq, h⟩ := h
        refine st_invS (As := [iV x6]) (v := [iV v1]) (S := []) (pc := 143) hC dX11_together_143 cl_11_324 rfl rfl (Nat.le_of_ble_eq_true rfl) hq ?_
        refine st_goto (tg := 151) (pc := 146) hC dX11_together_146 (by decide) ?_
        exact st_ireturn (pc := 151) hC dX11_together_151 trivial h
      · refine st_iload (pc := 149) hC dX11_together_149 rfl ?_
        exact st_ireturn (pc := 151) hC dX11_together_151 trivial h
  · refine st_iload (pc := 79) hC dX11_together_79 rfl ?_
    refine st_iload_n (pc := 81) hC dX11_together_81 rfl ?_
    refine st_iconst (pc := 82) hC dX11_together_82 (by decide) ?_
    refine st_ixor (pc := 83) hC dX11_together_83 ?_
    refine st_iand (pc := 84) hC dX11_together_84 ?_
    refine st_if_ne (tg := 120) (pc := 85) hC dX11_together_85 (by decide) (ite_im h (fun h => ?_) (fun h => ?_))
    · refine st_iload (pc := 88) hC dX11_together_88 rfl ?_
      refine st_iconst (pc := 90) hC dX11_together_90 (by decide) ?_
      refine st_icmp_eq (tg := 107) (pc := 91) hC dX11_together_91 (by decide) (ite_im h (fun h => ?_) (fun h => ?_))
      · refine st_aload_n (pc := 107) hC dX11_together_107 rfl (by decide) (by decide) ?_
        refine st_iload (pc := 108) hC dX11_together_108 rfl ?_
        obtain ⟨v2, hq, h⟩ := h
        refine st_invV (As := [iV x7]) (v := [iV v2]) (S := []) (pc := 110) hC dX11_together_110 cl_11_327 rfl rfl (Nat.le_of_ble_eq_true rfl) cr_X11_haveAll hq ?_
        refine st_if_eq (tg := 120) (pc := 113) hC dX11_together_113 (by decide) (ite_im h (fun h => ?_) (fun h => ?_))
        · refine st_iinc (L2 := [rV 20 66, iV x1, lV x2, uV, iV x4, iV x5, iV x6, iV (w32 (x7 + 1))]) (pc := 120) hC dX11_together_120 rfl (Nat.le_of_ble_eq_true rfl) rfl ?_
          refine st_goto (tg := 73) (pc := 123) hC dX11_together_123 (by decide) ?_
          exact h
        · refine st_iload (pc := 116) hC dX11_together_116 rfl ?_
          refine st_istore (L2 := [rV 20 66, iV x1, lV x2, uV, iV x4, iV x5, iV x7, iV x7]) (pc := 118) hC dX11_together_118 (Nat.le_of_ble_eq_true rfl) rfl ?_
          refine st_iinc (L2 := [rV 20 66, iV x1, lV x2, uV, iV x4, iV x5, iV x7, iV (w32 (x7 + 1))]) (pc := 120) hC dX11_together_120 rfl (Nat.le_of_ble_eq_true rfl) rfl ?_
          refine st_goto (tg := 73) (pc := 123) hC dX11_together_123 (by decide) ?_
          exact h
      · refine st_iload (pc := 94) hC dX11_together_94 rfl ?_
        obtain ⟨v3, hq, h⟩ := h
        refine st_invS (As := [iV x7]) (v := [iV v3]) (S := []) (pc := 96) hC dX11_together_96 cl_11_324 rfl rfl (Nat.le_of_ble_eq_true rfl) hq ?_
        refine st_iload (pc := 99) hC dX11_together_99 rfl ?_
        obtain ⟨v4, hq, h⟩ := h
        refine st_invS (As := [iV x6]) (v := [iV v4]) (S := [iV v3]) (pc := 101) hC dX11_together_101 cl_11_324 rfl rfl (Nat.le_of_ble_eq_true rfl) hq ?_
        refine st_icmp_ge (tg := 120) (pc := 104) hC dX11_together_104 (by decide) (ite_im h (fun h => ?_) (fun h => ?_))
        · refine st_aload_n (pc := 107) hC dX11_together_107 rfl (by decide) (by decide) ?_
          refine st_iload (pc := 108) hC dX11_together_108 rfl ?_
          obtain ⟨v5, hq, h⟩ := h
          refine st_invV (As := [iV x7]) (v := [iV v5]) (S := []) (pc := 110) hC dX11_together_110 cl_11_327 rfl rfl (Nat.le_of_ble_eq_true rfl) cr_X11_haveAll hq ?_
          refine st_if_eq (tg := 120) (pc := 113) hC dX11_together_113 (by decide) (ite_im h (fun h => ?_) (fun h => ?_))
          · refine st_iinc (L2 := [rV 20 66, iV x1, lV x2, uV, iV x4, iV x5, iV x6, iV (w32 (x7 + 1))]) (pc := 120) hC dX11_together_120 rfl (Nat.le_of_ble_eq_true rfl) rfl ?_
            refine st_goto (tg := 73) (pc := 123) hC dX11_together_123 (by decide) ?_
            exact h
          · refine st_iload (pc := 116) hC dX11_together_116 rfl ?_
            refine st_istore (L2 := [rV 20 66, iV x1, lV x2, uV, iV x4, iV x5, iV x7, iV x7]) (pc := 118) hC dX11_together_118 (Nat.le_of_ble_eq_true rfl) rfl ?_
            refine st_iinc (L2 := [rV 20 66, iV x1, lV x2, uV, iV x4, iV x5, iV x7, iV (w32 (x7 + 1))]) (pc := 120) hC dX11_together_120 rfl (Nat.le_of_ble_eq_true rfl) rfl ?_
            refine st_goto (tg := 73) (pc := 123) hC dX11_together_123 (by decide) ?_
            exact h
        · refine st_iinc (L2 := [rV 20 66, iV x1, lV x2, uV, iV x4, iV x5, iV x6, iV (w32 (x7 + 1))]) (pc := 120) hC dX11_together_120 rfl (Nat.le_of_ble_eq_true rfl) rfl ?_
          refine st_goto (tg := 73) (pc := 123) hC dX11_together_123 (by decide) ?_
          exact h
    · refine st_iinc (L2 := [rV 20 66, iV x1, lV x2, uV, iV x4, iV x5, iV x6, iV (w32 (x7 + 1))]) (pc := 120) hC dX11_together_120 rfl (Nat.le_of_ble_eq_true rfl) rfl ?_
      refine st_goto (tg := 73) (pc := 123) hC dX11_together_123 (by decide) ?_
      exact h
theorem bX11_common_0 {C : Nat → List Vv → Sg → Rs → Sg → Prop} {X : Nat → List Vv → List Vv → Sg → Prop} {Xr : List Vv → Sg → Prop} {Xt : Nat → Sg → Prop} (hC : Clo C 11 cX11_common (some .long) X Xr Xt) {x1 x2 : Int} {σ : Sg} (h : ∃ v1 : Int, C MX11_isPerson [rV 20 66, lV x1] (upS σ 66 5 0) (.inl [iV v1]) (upS σ 66 5 0) ∧ (if v1 = 0 then (∃ v2 : Int, ∃ σ2 : Sg, C MX11_fails [rV 20 66, iV 1] (upS σ 66 5 0) (.inl [iV v2]) σ2 ∧ (Xr [lV v2] σ2)) else (∃ v3 : Int, C MX11_isPerson [rV 20 66, lV x2] (upS σ 66 5 0) (.inl [iV v3]) (upS σ 66 5 0) ∧ (if v3 = 0 then (∃ v4 : Int, ∃ σ4 : Sg, C MX11_fails [rV 20 66, iV 1] (upS σ 66 5 0) (.inl [iV v4]) σ4 ∧ (Xr [lV v4] σ4)) else (X 35 [rV 20 66, iV x1, iV x2, lV 1, uV, iV 0, uV] [] (upS σ 66 5 0)))))) : X 0 [rV 20 66, iV x1, iV x2, uV, uV, uV, uV] [] σ := by
  refine st_aload_n (pc := 0) hC dX11_common_0 rfl (by decide) (by decide) ?_
  refine st_iconst (pc := 1) hC dX11_common_1 (by decide) ?_
  refine st_putfI (ci := 10) (f := 5) (pc := 2) hC dX11_common_2 fl_11_64 rfl rfl ?_
  refine st_aload_n (pc := 5) hC dX11_common_5 rfl (by decide) (by decide) ?_
  refine st_iload_n (pc := 6) hC dX11_common_6 rfl ?_
  refine st_i2l (pc := 7) hC dX11_common_7 ?_
  obtain ⟨v1, hq, h⟩ := h
  refine st_invV (As := [lV x1]) (v := [iV v1]) (S := []) (pc := 8) hC dX11_common_8 cl_11_203 rfl rfl (Nat.le_of_ble_eq_true rfl) cr_X11_isPerson hq ?_
  refine st_if_eq (tg := 23) (pc := 11) hC dX11_common_11 (by decide) (ite_im h (fun h => ?_) (fun h => ?_))
  · refine st_aload_n (pc := 23) hC dX11_common_23 rfl (by decide) (by decide) ?_
    refine st_iconst (pc := 24) hC dX11_common_24 (by decide) ?_
    obtain ⟨v2, σ2, hq, h⟩ := h
    refine st_invV (As := [iV 1]) (v := [iV v2]) (S := []) (pc := 25) hC dX11_common_25 cl_11_178 rfl rfl (Nat.le_of_ble_eq_true rfl) cr_X11_fails hq ?_
    refine st_i2l (pc := 28) hC dX11_common_28 ?_
    exact st_lreturn (pc := 29) hC dX11_common_29 h
  · refine st_aload_n (pc := 14) hC dX11_common_14 rfl (by decide) (by decide) ?_
    refine st_iload_n (pc := 15) hC dX11_common_15 rfl ?_
    refine st_i2l (pc := 16) hC dX11_common_16 ?_
    obtain ⟨v3, hq, h⟩ := h
    refine st_invV (As := [lV x2]) (v := [iV v3]) (S := []) (pc := 17) hC dX11_common_17 cl_11_203 rfl rfl (Nat.le_of_ble_eq_true rfl) cr_X11_isPerson hq ?_
    refine st_if_ne (tg := 30) (pc := 20) hC dX11_common_20 (by decide) (ite_im h (fun h => ?_) (fun h => ?_))
    · refine st_aload_n (pc := 23) hC dX11_common_23 rfl (by decide) (by decide) ?_
      refine st_iconst (pc := 24) hC dX11_common_24 (by decide) ?_
      obtain ⟨v4, σ4, hq, h⟩ := h
      refine st_invV (As := [iV 1]) (v := [iV v4]) (S := []) (pc := 25) hC dX11_common_25 cl_11_178 rfl rfl (Nat.le_of_ble_eq_true rfl) cr_X11_fails hq ?_
      refine st_i2l (pc := 28) hC dX11_common_28 ?_
      exact st_lreturn (pc := 29) hC dX11_common_29 h
    · refine st_lconst1 (pc := 30) hC dX11_common_30 ?_
      refine st_lstore_n (L2 := [rV 20 66, iV x1, iV x2, lV 1, uV, uV, uV]) (pc := 31) hC dX11_common_31 (Nat.le_of_ble_eq_true rfl) rfl ?_
      refine st_iconst (pc := 32) hC dX11_common_32 (by decide) ?_
      refine st_istore (L2 := [rV 20 66, iV x1, iV x2, lV 1, uV, iV 0, uV]) (pc := 33) hC dX11_common_33 (Nat.le_of_ble_eq_true rfl) rfl ?_
      exact h
theorem bX11_common_35 {C : Nat → List Vv → Sg → Rs → Sg → Prop} {X : Nat → List Vv → List Vv → Sg → Prop} {Xr : List Vv → Sg → Prop} {Xt : Nat → Sg → Prop} (hC : Clo C 11 cX11_common (some .long) X Xr Xt) {x1 x2 x3 x5 : Int} {σ : Sg} (h : ∃ v1 : Int, C MX11_coins [rV 20 66] σ (.inl [iV v1]) σ ∧ (if x5 < v1 then (X 47 [rV 20 66, iV x1, iV x2, lV x3, uV, iV x5, iV 0] [] σ) else (Xr [lV x3] σ))) : X 35 [rV 20 66, iV x1, iV x2, lV x3, uV, iV x5, uV] [] σ := by
  refine st_iload (pc := 35) hC dX11_common_35 rfl ?_
  refine st_aload_n (pc := 37) hC dX11_common_37 rfl (by decide) (by decide) ?_
  obtain ⟨v1, hq, h⟩ := h
  refine st_invV (As := []) (v := [iV v1]) (S := [iV x5]) (pc := 38) hC dX11_common_38 cl_11_193 rfl rfl (Nat.le_of_ble_eq_true rfl) cr_X11_coins hq ?_
  refine st_icmp_ge (tg := 91) (pc := 41) hC dX11_common_41 (by decide) (ite_im h (fun h => ?_) (fun h => ?_))
  · refine st_iconst (pc := 44) hC dX11_common_44 (by decide) ?_
    refine st_istore (L2 := [rV 20 66, iV x1, iV x2, lV x3, uV, iV x5, iV 0]) (pc := 45) hC dX11_common_45 (Nat.le_of_ble_eq_true rfl) rfl ?_
    exact h
  · refine st_lload_n (pc := 91) hC dX11_common_91 rfl ?_
    exact st_lreturn (pc := 92) hC dX11_common_92 h
theorem bX11_common_47 {C : Nat → List Vv → Sg → Rs → Sg → Prop} {X : Nat → List Vv → List Vv → Sg → Prop} {Xr : List Vv → Sg → Prop} {Xt : Nat → Sg → Prop} (hC : Clo C 11 cX11_common (some .long) X Xr Xt) {x1 x2 x3 x5 x6 : Int} {σ : Sg} (h : ∃ v1 : Int, C MX11_of [rV 20 66, iV x1, iV x5] σ (.inl [iV v1]) σ ∧ (∃ v2 : Int, C MX11_of [rV 20 66, iV x2, iV x5] σ (.inl [iV v2]) σ ∧ (if x6 < (min v1 v2) then (∃ v3 : Int, C MX11_prime [rV 20 66, iV x5] σ (.inl [iV v3]) σ ∧ (X 47 [rV 20 66, iV x1, iV x2, lV (w64 (x3 * v3)), uV, iV x5, iV (w32 (x6 + 1))] [] σ)) else (X 35 [rV 20 66, iV x1, iV x2, lV x3, uV, iV (w32 (x5 + 1)), uV] [] σ)))) : X 47 [rV 20 66, iV x1, iV x2, lV x3, uV, iV x5, iV x6] [] σ := by
  refine st_iload (pc := 47) hC dX11_common_47 rfl ?_
  refine st_aload_n (pc := 49) hC dX11_common_49 rfl (by decide) (by decide) ?_
  refine st_iload_n (pc := 50) hC dX11_common_50 rfl ?_
  refine st_iload (pc := 51) hC dX11_common_51 rfl ?_
  obtain ⟨v1, hq, h⟩ := h
  refine st_invV (As := [iV x1, iV x5]) (v := [iV v1]) (S := [iV x6]) (pc := 53) hC dX11_common_53 cl_11_196 rfl rfl (Nat.le_of_ble_eq_true rfl) cr_X11_of hq ?_
  refine st_aload_n (pc := 56) hC dX11_common_56 rfl (by decide) (by decide) ?_
  refine st_iload_n (pc := 57) hC dX11_common_57 rfl ?_
  refine st_iload (pc := 58) hC dX11_common_58 rfl ?_
  obtain ⟨v2, hq, h⟩ := h
  refine st_invV (As := [iV x2, iV x5]) (v := [iV v2]) (S := [iV v1, iV x6]) (pc := 60) hC dX11_common_60 cl_11_196 rfl rfl (Nat.le_of_ble_eq_true rfl) cr_X11_of hq ?_
  refine st_mmin (pc := 63) hC dX11_common_63 rfl (Nat.le_of_ble_eq_true rfl) ?_
  refine st_icmp_ge (tg := 85) (pc := 66) hC dX11_common_66 (by decide) (ite_im h (fun h => ?_) (fun h => ?_))
  · refine st_lload_n (pc := 69) hC dX11_common_69 rfl ?_
    refine st_aload_n (pc := 70) hC dX11_common_70 rfl (by decide) (by decide) ?_
    refine st_iload (pc := 71) hC dX11_common_71 rfl ?_
    obtain ⟨v3, hq, h⟩ := h
    refine st_invV (As := [iV x5]) (v := [iV v3]) (S := [lV x3]) (pc := 73) hC dX11_common_73 cl_11_200 rfl rfl (Nat.le_of_ble_eq_true rfl) cr_X11_prime hq ?_
    refine st_i2l (pc := 76) hC dX11_common_76 ?_
    refine st_lmul (pc := 77) hC dX11_common_77 ?_
    refine st_lstore_n (L2 := [rV 20 66, iV x1, iV x2, lV (w64 (x3 * v3)), uV, iV x5, iV x6]) (pc := 78) hC dX11_common_78 (Nat.le_of_ble_eq_true rfl) rfl ?_
    refine st_iinc (L2 := [rV 20 66, iV x1, iV x2, lV (w64 (x3 * v3)), uV, iV x5, iV (w32 (x6 + 1))]) (pc := 79) hC dX11_common_79 rfl (Nat.le_of_ble_eq_true rfl) rfl ?_
    refine st_goto (tg := 47) (pc := 82) hC dX11_common_82 (by decide) ?_
    exact h
  · refine st_iinc (L2 := [rV 20 66, iV x1, iV x2, lV x3, uV, iV (w32 (x5 + 1)), iV x6]) (pc := 85) hC dX11_common_85 rfl (Nat.le_of_ble_eq_true rfl) rfl ?_
    refine st_goto (tg := 35) (pc := 88) hC dX11_common_88 (by decide) ?_
    exact st_fg (L2 := [rV 20 66, iV x1, iV x2, lV x3, uV, iV (w32 (x5 + 1)), uV]) hC ⟨Or.inl rfl, Or.inl rfl, Or.inl rfl, Or.inl rfl, Or.inl rfl, Or.inl rfl, Or.inr rfl, trivial⟩ h
theorem bX11_least_0 {C : Nat → List Vv → Sg → Rs → Sg → Prop} {X : Nat → List Vv → List Vv → Sg → Prop} {Xr : List Vv → Sg → Prop} {Xt : Nat → Sg → Prop} (hC : Clo C 11 cX11_least (some .int) X Xr Xt) {x1 x2 : Int} {σ : Sg} (h : ∃ v1 : Int, C MX11_isPerson [rV 20 66, lV x1] (upS σ 66 5 0) (.inl [iV v1]) (upS σ 66 5 0) ∧ (if v1 = 0 then (∃ v2 : Int, ∃ σ2 : Sg, C MX11_fails [rV 20 66, iV 1] (upS σ 66 5 0) (.inl [iV v2]) σ2 ∧ (Xr [iV v2] σ2)) else (∃ v3 : Int, C MX11_isPerson [rV 20 66, lV x2] (upS σ 66 5 0) (.inl [iV v3]) (upS σ 66 5 0) ∧ (if v3 = 0 then (∃ v4 : Int, ∃ σ4 : Sg, C MX11_fails [rV 20 66, iV 1] (upS σ 66 5 0) (.inl [iV v4]) σ4 ∧ (Xr [iV v4] σ4)) else (X 34 [rV 20 66, iV x1, iV x2, iV 0, iV 0] [] (upS σ 66 5 0)))))) : X 0 [rV 20 66, iV x1, iV x2, uV, uV] [] σ := by
  refine st_aload_n (pc := 0) hC dX11_least_0 rfl (by decide) (by decide) ?_
  refine st_iconst (pc := 1) hC dX11_least_1 (by decide) ?_
  refine st_putfI (ci := 10) (f := 5) (pc := 2) hC dX11_least_2 fl_11_64 rfl rfl ?_
  refine st_aload_n (pc := 5) hC dX11_least_5 rfl (by decide) (by decide) ?_
  refine st_iload_n (pc := 6) hC dX11_least_6 rfl ?_
  refine st_i2l (pc := 7) hC dX11_least_7 ?_
  obtain ⟨v1, hq, h⟩ := h
  refine st_invV (As := [lV x1]) (v := [iV v1]) (S := []) (pc := 8) hC dX11_least_8 cl_11_203 rfl rfl (Nat.le_of_ble_eq_true rfl) cr_X11_isPerson hq ?_
  refine st_if_eq (tg := 23) (pc := 11) hC dX11_least_11 (by decide) (ite_im h (fun h => ?_) (fun h => ?_))
  · refine st_aload_n (pc := 23) hC dX11_least_23 rfl (by decide) (by decide) ?_
    refine st_iconst (pc := 24) hC dX11_least_24 (by decide) ?_
    obtain ⟨v2, σ2, hq, h⟩ := h
    refine st_invV (As := [iV 1]) (v := [iV v2]) (S := []) (pc := 25) hC dX11_least_25 cl_11_178 rfl rfl (Nat.le_of_ble_eq_true rfl) cr_X11_fails hq ?_
    exact st_ireturn (pc := 28) hC dX11_least_28 trivial h
  · refine st_aload_n (pc := 14) hC dX11_least_14 rfl (by decide) (by decide) ?_
    refine st_iload_n (pc := 15) hC dX11_least_15 rfl ?_
    refine st_i2l (pc := 16) hC dX11_least_16 ?_
    obtain ⟨v3, hq, h⟩ := h
    refine st_invV (As := [lV x2]) (v := [iV v3]) (S := []) (pc := 17) hC dX11_least_17 cl_11_203 rfl rfl (Nat.le_of_ble_eq_true rfl) cr_X11_isPerson hq ?_
    refine st_if_ne (tg := 29) (pc := 20) hC dX11_least_20 (by decide) (ite_im h (fun h => ?_) (fun h => ?_))
    · refine st_aload_n (pc := 23) hC dX11_least_23 rfl (by decide) (by decide) ?_
      refine st_iconst (pc := 24) hC dX11_least_24 (by decide) ?_
      obtain ⟨v4, σ4, hq, h⟩ := h
      refine st_invV (As := [iV 1]) (v := [iV v4]) (S := []) (pc := 25) hC dX11_least_25 cl_11_178 rfl rfl (Nat.le_of_ble_eq_true rfl) cr_X11_fails hq ?_
      exact st_ireturn (pc := 28) hC dX11_least_28 trivial h
    · refine st_iconst (pc := 29) hC dX11_least_29 (by decide) ?_
      refine st_istore_n (L2 := [rV 20 66, iV x1, iV x2, iV 0, uV]) (pc := 30) hC dX11_least_30 (Nat.le_of_ble_eq_true rfl) rfl ?_
      refine st_iconst (pc := 31) hC dX11_least_31 (by decide) ?_
      refine st_istore (L2 := [rV 20 66, iV x1, iV x2, iV 0, iV 0]) (pc := 32) hC dX11_least_32 (Nat.le_of_ble_eq_true rfl) rfl ?_
      exact h
theorem bX11_least_34 {C : Nat → List Vv → Sg → Rs → Sg → Prop} {X : Nat → List Vv → List Vv → Sg → Prop} {Xr : List Vv → Sg → Prop} {Xt : Nat → Sg → Prop} (hC : Clo C 11 cX11_least (some .int) X Xr Xt) {x1 x2 x3 x4 : Int} {σ : Sg} (h : ∃ v1 : Int, C MX11_coins [rV 20 66] σ (.inl [iV v1]) σ ∧ (if x4 < v1 then (∃ v2 : Int, C MX11_of [rV 20 66, iV x1, iV x4] σ (.inl [iV v2]) σ ∧ (∃ v3 : Int, C MX11_of [rV 20 66, iV x2, iV x4] σ (.inl [iV v3]) σ ∧ (X 34 [rV 20 66, iV x1, iV x2, iV (w32 (x3 + (max v2 v3))), iV (w32 (x4 + 1))] [] σ))) else (Xr [iV x3] σ))) : X 34 [rV 20 66, iV x1, iV x2, iV x3, iV x4] [] σ := by
  refine st_iload (pc := 34) hC dX11_least_34 rfl ?_
  refine st_aload_n (pc := 36) hC dX11_least_36 rfl (by decide) (by decide) ?_
  obtain ⟨v1, hq, h⟩ := h
  refine st_invV (As := []) (v := [iV v1]) (S := [iV x4]) (pc := 37) hC dX11_least_37 cl_11_193 rfl rfl (Nat.le_of_ble_eq_true rfl) cr_X11_coins hq ?_
  refine st_icmp_ge (tg := 69) (pc := 40) hC dX11_least_40 (by decide) (ite_im h (fun h => ?_) (fun h => ?_))
  · refine st_iload_n (pc := 43) hC dX11_least_43 rfl ?_
    refine st_aload_n (pc := 44) hC dX11_least_44 rfl (by decide) (by decide) ?_
    refine st_iload_n (pc := 45) hC dX11_least_45 rfl ?_
    refine st_iload (pc := 46) hC dX11_least_46 rfl ?_
    obtain ⟨v2, hq, h⟩ := h
    refine st_invV (As := [iV x1, iV x4]) (v := [iV v2]) (S := [iV x3]) (pc := 48) hC dX11_least_48 cl_11_196 rfl rfl (Nat.le_of_ble_eq_true rfl) cr_X11_of hq ?_
    refine st_aload_n (pc := 51) hC dX11_least_51 rfl (by decide) (by decide) ?_
    refine st_iload_n (pc := 52) hC dX11_least_52 rfl ?_
    refine st_iload (pc := 53) hC dX11_least_53 rfl ?_
    obtain ⟨v3, hq, h⟩ := h
    refine st_invV (As := [iV x2, iV x4]) (v := [iV v3]) (S := [iV v2, iV x3]) (pc := 55) hC dX11_least_55 cl_11_196 rfl rfl (Nat.le_of_ble_eq_true rfl) cr_X11_of hq ?_
    refine st_mmax (pc := 58) hC dX11_least_58 rfl (Nat.le_of_ble_eq_true rfl) ?_
    refine st_iadd (pc := 61) hC dX11_least_61 ?_
    refine st_istore_n (L2 := [rV 20 66, iV x1, iV x2, iV (w32 (x3 + (max v2 v3))), iV x4]) (pc := 62) hC dX11_least_62 (Nat.le_of_ble_eq_true rfl) rfl ?_
    refine st_iinc (L2 := [rV 20 66, iV x1, iV x2, iV (w32 (x3 + (max v2 v3))), iV (w32 (x4 + 1))]) (pc := 63) hC dX11_least_63 rfl (Nat.le_of_ble_eq_true rfl) rfl ?_
    refine st_goto (tg := 34) (pc := 66) hC dX11_least_66 (by decide) ?_
    exact h
  · refine st_iload_n (pc := 69) hC dX11_least_69 rfl ?_
    exact st_ireturn (pc := 70) hC dX11_least_70 trivial h
theorem bX11_areFriends_0 {C : Nat → List Vv → Sg → Rs → Sg → Prop} {X : Nat → List Vv → List Vv → Sg → Prop} {Xr : List Vv → Sg → Prop} {Xt : Nat → Sg → Prop} (hC : Clo C 11 cX11_areFriends (some .boolean) X Xr Xt) {x1 : Int} {σ : Sg} (h : X 2 [rV 20 66, iV x1, iV 0, uV, uV] [] σ) : X 0 [rV 20 66, iV x1, uV, uV, uV] [] σ := by
  refine st_iconst (pc := 0) hC dX11_areFriends_0 (by decide) ?_
  refine st_istore_n (L2 := [rV 20 66, iV x1, iV 0, uV, uV]) (pc := 1) hC dX11_areFriends_1 (Nat.le_of_ble_eq_true rfl) rfl ?_
  exact h
theorem bX11_areFriends_2 {C : Nat → List Vv → Sg → Rs → Sg → Prop} {X : Nat → List Vv → List Vv → Sg → Prop} {Xr : List Vv → Sg → Prop} {Xt : Nat → Sg → Prop} (hC : Clo C 11 cX11_areFriends (some .boolean) X Xr Xt) {x1 x2 : Int} {σ : Sg} (h : ∃ v1 : Int, C MX11_coins [rV 20 66] σ (.inl [iV v1]) σ ∧ (if x2 < v1 then (X 15 [rV 20 66, iV x1, iV x2, iV 0, iV 0] [] σ) else (Xr [iV 1] σ))) : X 2 [rV 20 66, iV x1, iV x2, uV, uV] [] σ := by
  refine st_iload_n (pc := 2) hC dX11_areFriends_2 rfl ?_
  refine st_aload_n (pc := 3) hC dX11_areFriends_3 rfl (by decide) (by decide) ?_
  obtain ⟨v1, hq, h⟩ := h
  refine st_invV (As := []) (v := [iV v1]) (S := [iV x2]) (pc := 4) hC dX11_areFriends_4 cl_11_193 rfl rfl (Nat.le_of_ble_eq_true rfl) cr_X11_coins hq ?_
  refine st_icmp_ge (tg := 71) (pc := 7) hC dX11_areFriends_7 (by decide) (ite_im h (fun h => ?_) (fun h => ?_))
  · refine st_iconst (pc := 10) hC dX11_areFriends_10 (by decide) ?_
    refine st_istore_n (L2 := [rV 20 66, iV x1, iV x2, iV 0, uV]) (pc := 11) hC dX11_areFriends_11 (Nat.le_of_ble_eq_true rfl) rfl ?_
    refine st_iconst (pc := 12) hC dX11_areFriends_12 (by decide) ?_
    refine st_istore (L2 := [rV 20 66, iV x1, iV x2, iV 0, iV 0]) (pc := 13) hC dX11_areFriends_13 (Nat.le_of_ble_eq_true rfl) rfl ?_
    exact h
  · refine st_iconst (pc := 71) hC dX11_areFriends_71 (by decide) ?_
    exact st_ireturn (pc := 72) hC dX11_areFriends_72 (Or.inr rfl) h
theorem bX11_areFriends_15 {C : Nat → List Vv → Sg → Rs → Sg → Prop} {X : Nat → List Vv → List Vv → Sg → Prop} {Xr : List Vv → Sg → Prop} {Xt : Nat → Sg → Prop} (hC : Clo C 11 cX11_areFriends (some .boolean) X Xr Xt) {x1 x2 x3 x4 : Int} {σ : Sg} (h : ∃ v1 : Int, C MX11_people [rV 20 66] σ (.inl [iV v1]) σ ∧ (if x4 < v1 then (if (iandI (ishrI x1 x4) 1) = 1 then (∃ v2 : Int, C MX11_of [rV 20 66, iV x4, iV x2] σ (.inl [iV v2]) σ ∧ (if (0 : Int) < v2 then (X 15 [rV 20 66, iV x1, iV x2, iV (w32 (x3 + 1)), iV (w32 (x4 + 1))] [] σ) else (X 15 [rV 20 66, iV x1, iV x2, iV (w32 (x3 + 0)), iV (w32 (x4 + 1))] [] σ))) else (X 15 [rV 20 66, iV x1, iV x2, iV (w32 (x3 + 0)), iV (w32 (x4 + 1))] [] σ)) else (if (1 : Int) < x3 then (Xr [iV 0] σ) else (X 2 [rV 20 66, iV x1, iV (w32 (x2 + 1)), uV, uV] [] σ)))) : X 15 [rV 20 66, iV x1, iV x2, iV x3, iV x4] [] σ := by
  refine st_iload (pc := 15) hC dX11_areFriends_15 rfl ?_
  refine st_aload_n (pc := 17) hC dX11_areFriends_17 rfl (by decide) (by decide) ?_
  obtain ⟨v1, hq, h⟩ := h
  refine st_invV (As := []) (v := [iV v1]) (S := [iV x4]) (pc := 18) hC dX11_areFriends_18 cl_11_190 rfl rfl (Nat.le_of_ble_eq_true rfl) cr_X11_people hq ?_
  refine st_icmp_ge (tg := 58) (pc := 21) hC dX11_areFriends_21 (by decide) (ite_im h (fun h => ?_) (fun h => ?_))
  · refine st_iload_n (pc := 24) hC dX11_areFriends_24 rfl ?_
    refine st_iload_n (pc := 25) hC dX11_areFriends_25 rfl ?_
    refine st_iload (pc := 26) hC dX11_areFriends_26 rfl ?_
    refine st_ishr (pc := 28) hC dX11_areFriends_28 ?_
    refine st_iconst (pc := 29) hC dX11_areFriends_29 (by decide) ?_
    refine st_iand (pc := 30) hC dX11_areFriends_30 ?_
    refine st_iconst (pc := 31) hC dX11_areFriends_31 (by decide) ?_
    refine st_icmp_ne (tg := 49) (pc := 32) hC dX11_areFriends_32 (by decide) (ite_im h (fun h => ?_) (fun h => ?_))
    · refine st_aload_n (pc := 35) hC dX11_areFriends_35 rfl (by decide) (by decide) ?_
      refine st_iload (pc := 36) hC dX11_areFriends_36 rfl ?_
      refine st_iload_n (pc := 38) hC dX11_areFriends_38 rfl ?_
      obtain ⟨v2, hq, h⟩ := h
      refine st_invV (As := [iV x4, iV x2]) (v := [iV v2]) (S := [iV x3]) (pc := 39) hC dX11_areFriends_39 cl_11_196 rfl rfl (Nat.le_of_ble_eq_true rfl) cr_X11_of hq ?_
      refine st_if_le (tg := 49) (pc := 42) hC dX11_areFriends_42 (by decide) (ite_im h (fun h => ?_) (fun h => ?_))
      · refine st_iconst (pc := 45) hC dX11_areFriends_45 (by decide) ?_
        refine st_goto (tg := 50) (pc := 46) hC dX11_areFriends_46 (by decide) ?_
        refine st_iadd (pc := 50) hC dX11_areFriends_50 ?_
        refine st_istore_n (L2 := [rV 20 66, iV x1, iV x2, iV (w32 (x3 + 1)), iV x4]) (pc := 51) hC dX11_areFriends_51 (Nat.le_of_ble_eq_true rfl) rfl ?_
        refine st_iinc (L2 := [rV 20 66, iV x1, iV x2, iV (w32 (x3 + 1)), iV (w32 (x4 + 1))]) (pc := 52) hC dX11_areFriends_52 rfl (Nat.le_of_ble_eq_true rfl) rfl ?_
        refine st_goto (tg := 15) (pc := 55) hC dX11_areFriends_55 (by decide) ?_
        exact h
      · refine st_iconst (pc := 49) hC dX11_areFriends_49 (by decide) ?_
        refine st_iadd (pc := 50) hC dX11_areFriends_50 ?_
        refine st_istore_n (L2 := [rV 20 66, iV x1, iV x2, iV (w32 (x3 + 0)), iV x4]) (pc := 51) hC dX11_areFriends_51 (Nat.le_of_ble_eq_true rfl) rfl ?_
        refine st_iinc (L2 := [rV 20 66, iV x1, iV x2, iV (w32 (x3 + 0)), iV (w32 (x4 + 1))]) (pc := 52) hC dX11_areFriends_52 rfl (Nat.le_of_ble_eq_true rfl) rfl ?_
        refine st_goto (tg := 15) (pc := 55) hC dX11_areFriends_55 (by decide) ?_
        exact h
    · refine st_iconst (pc := 49) hC dX11_areFriends_49 (by decide) ?_
      refine st_iadd (pc := 50) hC dX11_areFriends_50 ?_
      refine st_istore_n (L2 := [rV 20 66, iV x1, iV x2, iV (w32 (x3 + 0)), iV x4]) (pc := 51) hC dX11_areFriends_51 (Nat.le_of_ble_eq_true rfl) rfl ?_
      refine st_iinc (L2 := [rV 20 66, iV x1, iV x2, iV (w32 (x3 + 0)), iV (w32 (x4 + 1))]) (pc := 52) hC dX11_areFriends_52 rfl (Nat.le_of_ble_eq_true rfl) rfl ?_
      refine st_goto (tg := 15) (pc := 55) hC dX11_areFriends_55 (by decide) ?_
      exact h
  · refine st_iload_n (pc := 58) hC dX11_areFriends_58 rfl ?_
    refine st_iconst (pc := 59) hC dX11_areFriends_59 (by decide) ?_
    refine st_icmp_le (tg := 65) (pc := 60) hC dX11_areFriends_60 (by decide) (ite_im h (fun h => ?_) (fun h => ?_))
    · refine st_iconst (pc := 63) hC dX11_areFriends_63 (by decide) ?_
      exact st_ireturn (pc := 64) hC dX11_areFriends_64 (Or.inl rfl) h
    · refine st_iinc (L2 := [rV 20 66, iV x1, iV (w32 (x2 + 1)), iV x3, iV x4]) (pc := 65) hC dX11_areFriends_65 rfl (Nat.le_of_ble_eq_true rfl) rfl ?_
      refine st_goto (tg := 2) (pc := 68) hC dX11_areFriends_68 (by decide) ?_
      exact st_fg (L2 := [rV 20 66, iV x1, iV (w32 (x2 + 1)), uV, uV]) hC ⟨Or.inl rfl, Or.inl rfl, Or.inl rfl, Or.inr rfl, Or.inr rfl, trivial⟩ h
theorem bX11_friends_0 {C : Nat → List Vv → Sg → Rs → Sg → Prop} {X : Nat → List Vv → List Vv → Sg → Prop} {Xr : List Vv → Sg → Prop} {Xt : Nat → Sg → Prop} (hC : Clo C 11 cX11_friends (some .int) X Xr Xt) {σ : Sg} (h : X 9 [rV 20 66, iV 0, iV 1] [] (upS σ 66 5 0)) : X 0 [rV 20 66, uV, uV] [] σ := by
  refine st_aload_n (pc := 0) hC dX11_friends_0 rfl (by decide) (by decide) ?_
  refine st_iconst (pc := 1) hC dX11_friends_1 (by decide) ?_
  refine st_putfI (ci := 10) (f := 5) (pc := 2) hC dX11_friends_2 fl_11_64 rfl rfl ?_
  refine st_iconst (pc := 5) hC dX11_friends_5 (by decide) ?_
  refine st_istore_n (L2 := [rV 20 66, iV 0, uV]) (pc := 6) hC dX11_friends_6 (Nat.le_of_ble_eq_true rfl) rfl ?_
  refine st_iconst (pc := 7) hC dX11_friends_7 (by decide) ?_
  refine st_istore_n (L2 := [rV 20 66, iV 0, iV 1]) (pc := 8) hC dX11_friends_8 (Nat.le_of_ble_eq_true rfl) rfl ?_
  exact h
theorem bX11_friends_9 {C : Nat → List Vv → Sg → Rs → Sg → Prop} {X : Nat → List Vv → List Vv → Sg → Prop} {Xr : List Vv → Sg → Prop} {Xt : Nat → Sg → Prop} (hC : Clo C 11 cX11_friends (some .int) X Xr Xt) {x1 x2 : Int} {σ : Sg} (h : ∃ v1 : Int, C MX11_people [rV 20 66] σ (.inl [iV v1]) σ ∧ (if x2 < (ishlI 1 v1) then (∃ v2 : Int, C MX11_bits [iV x2] σ (.inl [iV v2]) σ ∧ (∃ v3 : Int, C MX11_bits [iV x1] σ (.inl [iV v3]) σ ∧ (if v3 < v2 then (∃ v4 : Int, C MX11_areFriends [rV 20 66, iV x2] σ (.inl [iV v4]) σ ∧ (if v4 = 0 then (X 9 [rV 20 66, iV x1, iV (w32 (x2 + 1))] [] σ) else (X 9 [rV 20 66, iV x2, iV (w32 (x2 + 1))] [] σ))) else (X 9 [rV 20 66, iV x1, iV (w32 (x2 + 1))] [] σ)))) else (Xr [iV x1] σ))) : X 9 [rV 20 66, iV x1, iV x2] [] σ := by
  refine st_iload_n (pc := 9) hC dX11_friends_9 rfl ?_
  refine st_iconst (pc := 10) hC dX11_friends_10 (by decide) ?_
  refine st_aload_n (pc := 11) hC dX11_friends_11 rfl (by decide) (by decide) ?_
  obtain ⟨v1, hq, h⟩ := h
  refine st_invV (As := []) (v := [iV v1]) (S := [iV 1, iV x2]) (pc := 12) hC dX11_friends_12 cl_11_190 rfl rfl (Nat.le_of_ble_eq_true rfl) cr_X11_people hq ?_
  refine st_ishl (pc := 15) hC dX11_friends_15 ?_
  refine st_icmp_ge (tg := 46) (pc := 16) hC dX11_friends_16 (by decide) (ite_im h (fun h => ?_) (fun h => ?_))
  · refine st_iload_n (pc := 19) hC dX11_friends_19 rfl ?_
    obtain ⟨v2, hq, h⟩ := h
    refine st_invS (As := [iV x2]) (v := [iV v2]) (S := []) (pc := 20) hC dX11_friends_20 cl_11_324 rfl rfl (Nat.le_of_ble_eq_true rfl) hq ?_
    refine st_iload_n (pc := 23) hC dX11_friends_23 rfl ?_
    obtain ⟨v3, hq, h⟩ := h
    refine st_invS (As := [iV x1]) (v := [iV v3]) (S := [iV v2]) (pc := 24) hC dX11_friends_24 cl_11_324 rfl rfl (Nat.le_of_ble_eq_true rfl) hq ?_
    refine st_icmp_le (tg := 40) (pc := 27) hC dX11_friends_27 (by decide) (ite_im h (fun h => ?_) (fun h => ?_))
    · refine st_aload_n (pc := 30) hC dX11_friends_30 rfl (by decide) (by decide) ?_
      refine st_iload_n (pc := 31) hC dX11_friends_31 rfl ?_
      obtain ⟨v4, hq, h⟩ := h
      refine st_invV (As := [iV x2]) (v := [iV v4]) (S := []) (pc := 32) hC dX11_friends_32 cl_11_330 rfl rfl (Nat.le_of_ble_eq_true rfl) cr_X11_areFriends hq ?_
      refine st_if_eq (tg := 40) (pc := 35) hC dX11_friends_35 (by decide) (ite_im h (fun h => ?_) (fun h => ?_))
      · refine st_iinc (L2 := [rV 20 66, iV x1, iV (w32 (x2 + 1))]) (pc := 40) hC dX11_friends_40 rfl (Nat.le_of_ble_eq_true rfl) rfl ?_
        refine st_goto (tg := 9) (pc := 43) hC dX11_friends_43 (by decide) ?_
        exact h
      · refine st_iload_n (pc := 38) hC dX11_friends_38 rfl ?_
        refine st_istore_n (L2 := [rV 20 66, iV x2, iV x2]) (pc := 39) hC dX11_friends_39 (Nat.le_of_ble_eq_true rfl) rfl ?_
        refine st_iinc (L2 := [rV 20 66, iV x2, iV (w32 (x2 + 1))]) (pc := 40) hC dX11_friends_40 rfl (Nat.le_of_ble_eq_true rfl) rfl ?_
        refine st_goto (tg := 9) (pc := 43) hC dX11_friends_43 (by decide) ?_
        exact h
    · refine st_iinc (L2 := [rV 20 66, iV x1, iV (w32 (x2 + 1))]) (pc := 40) hC dX11_friends_40 rfl (Nat.le_of_ble_eq_true rfl) rfl ?_
      refine st_goto (tg := 9) (pc := 43) hC dX11_friends_43 (by decide) ?_
      exact h
  · refine st_iload_n (pc := 46) hC dX11_friends_46 rfl ?_
    exact st_ireturn (pc := 47) hC dX11_friends_47 trivial h
theorem bX11_stolen_0 {C : Nat → List Vv → Sg → Rs → Sg → Prop} {X : Nat → List Vv → List Vv → Sg → Prop} {Xr : List Vv → Sg → Prop} {Xt : Nat → Sg → Prop} (hC : Clo C 11 cX11_stolen (some .int) X Xr Xt) {x1 x2 x4 : Int} {σ : Sg} (h : ∃ v1 : Int, C MX11_isPerson [rV 20 66, lV x1] σ (.inl [iV v1]) σ ∧ (if v1 = 0 then (if (0 : Int) < ((upS σ 66 5 1) 66 5) then (Xr [iV 0] (upS σ 66 5 1)) else (X 62 [rV 20 66, iV x1, lV x2, uV, lV x4, uV, iV 0, iV 0] [] (upS σ 66 5 1))) else (∃ v2 : Int, C MX11_within [lV x2, lV 2, lV 1000000000] σ (.inl [iV v2]) σ ∧ (if v2 = 0 then (if (0 : Int) < ((upS σ 66 5 2) 66 5) then (Xr [iV 0] (upS σ 66 5 2)) else (X 62 [rV 20 66, iV x1, lV x2, uV, lV x4, uV, iV 0, iV 0] [] (upS σ 66 5 2))) else (∃ v3 : Int, C MX11_within [lV x4, lV 0, lV (w64 (x2 - 1))] σ (.inl [iV v3]) σ ∧ (if v3 = 0 then (if (0 : Int) < ((upS σ 66 5 2) 66 5) then (Xr [iV 0] (upS σ 66 5 2)) else (X 62 [rV 20 66, iV x1, lV x2, uV, lV x4, uV, iV 0, iV 0] [] (upS σ 66 5 2))) else (if (0 : Int) < ((upS σ 66 5 0) 66 5) then (Xr [iV 0] (upS σ 66 5 0)) else (X 62 [rV 20 66, iV x1, lV x2, uV, lV x4, uV, iV 0, iV 0] [] (upS σ 66 5 0))))))))) : X 0 [rV 20 66, iV x1, lV x2, uV, lV x4, uV, uV, uV] [] σ := by
  refine st_aload_n (pc := 0) hC dX11_stolen_0 rfl (by decide) (by decide) ?_
  refine st_aload_n (pc := 1) hC dX11_stolen_1 rfl (by decide) (by decide) ?_
  refine st_iload_n (pc := 2) hC dX11_stolen_2 rfl ?_
  refine st_i2l (pc := 3) hC dX11_stolen_3 ?_
  obtain ⟨v1, hq, h⟩ := h
  refine st_invV (As := [lV x1]) (v := [iV v1]) (S := [rV 20 66]) (pc := 4) hC dX11_stolen_4 cl_11_203 rfl rfl (Nat.le_of_ble_eq_true rfl) cr_X11_isPerson hq ?_
  refine st_if_ne (tg := 14) (pc := 7) hC dX11_stolen_7 (by decide) (ite_im h (fun h => ?_) (fun h => ?_))
  · refine st_iconst (pc := 10) hC dX11_stolen_10 (by decide) ?_
    refine st_goto (tg := 44) (pc := 11) hC dX11_stolen_11 (by decide) ?_
    refine st_putfI (ci := 10) (f := 5) (pc := 44) hC dX11_stolen_44 fl_11_64 rfl rfl ?_
    refine st_aload_n (pc := 47) hC dX11_stolen_47 rfl (by decide) (by decide) ?_
    refine st_getf (ci := 10) (f := 5) (v := iV ((upS σ 66 5 1) 66 5)) (pc := 48) hC dX11_stolen_48 fl_11_64 rfl rfl ?_
    refine st_if_le (tg := 56) (pc := 51) hC dX11_stolen_51 (by decide) (ite_im h (fun h => ?_) (fun h => ?_))
    · refine st_iconst (pc := 54) hC dX11_stolen_54 (by decide) ?_
      exact st_ireturn (pc := 55) hC dX11_stolen_55 trivial h
    · refine st_iconst (pc := 56) hC dX11_stolen_56 (by decide) ?_
      refine st_istore (L2 := [rV 20 66, iV x1, lV x2, uV, lV x4, uV, iV 0, uV]) (pc := 57) hC dX11_stolen_57 (Nat.le_of_ble_eq_true rfl) rfl ?_
      refine st_iconst (pc := 59) hC dX11_stolen_59 (by decide) ?_
      refine st_istore (L2 := [rV 20 66, iV x1, lV x2, uV, lV x4, uV, iV 0, iV 0]) (pc := 60) hC dX11_stolen_60 (Nat.le_of_ble_eq_true rfl) rfl ?_
      exact h
  · refine st_lload_n (pc := 14) hC dX11_stolen_14 rfl ?_
    refine st_ldc2 (pc := 15) hC dX11_stolen_15 rfl ?_
    refine st_ldc2 (pc := 18) hC dX11_stolen_18 rfl ?_
    obtain ⟨v2, hq, h⟩ := h
    refine st_invS (As := [lV x2, lV 2, lV 1000000000]) (v := [iV v2]) (S := [rV 20 66]) (pc := 21) hC dX11_stolen_21 cl_11_133 rfl rfl (Nat.le_of_ble_eq_true rfl) hq ?_
    refine st_if_eq (tg := 43) (pc := 24) hC dX11_stolen_24 (by decide) (ite_im h (fun h => ?_) (fun h => ?_))
    · refine st_iconst (pc := 43) hC dX11_stolen_43 (by decide) ?_
      refine st_putfI (ci := 10) (f := 5) (pc := 44) hC dX11_stolen_44 fl_11_64 rfl rfl ?_
      refine st_aload_n (pc := 47) hC dX11_stolen_47 rfl (by decide) (by decide) ?_
      refine st_getf (ci := 10) (f := 5) (v := iV ((upS σ 66 5 2) 66 5)) (pc := 48) hC dX11_stolen_48 fl_11_64 rfl rfl ?_
      refine st_if_le (tg := 56) (pc := 51) hC dX11_stolen_51 (by decide) (ite_im h (fun h => ?_) (fun h => ?_))
      · refine st_iconst (pc := 54) hC dX11_stolen_54 (by decide) ?_
        exact st_ireturn (pc := 55) hC dX11_stolen_55 trivial h
      · refine st_iconst (pc := 56) hC dX11_stolen_56 (by decide) ?_
        refine st_istore (L2 := [rV 20 66, iV x1, lV x2, uV, lV x4, uV, iV 0, uV]) (pc := 57) hC dX11_stolen_57 (Nat.le_of_ble_eq_true rfl) rfl ?_
        refine st_iconst (pc := 59) hC dX11_stolen_59 (by decide) ?_
        refine st_istore (L2 := [rV 20 66, iV x1, lV x2, uV, lV x4, uV, iV 0, iV 0]) (pc := 60) hC dX11_stolen_60 (Nat.le_of_ble_eq_true rfl) rfl ?_
        exact h
    · refine st_lload (pc := 27) hC dX11_stolen_27 rfl ?_
      refine st_lconst0 (pc := 29) hC dX11_stolen_29 ?_
      refine st_lload_n (pc := 30) hC dX11_stolen_30 rfl ?_
      refine st_lconst1 (pc := 31) hC dX11_stolen_31 ?_
      refine st_lsub (pc := 32) hC dX11_stolen_32 ?_
      obtain ⟨v3, hq, h⟩ := h
      refine st_invS (As := [lV x4, lV 0, lV (w64 (x2 - 1))]) (v := [iV v3]) (S := [rV 20 66]) (pc := 33) hC dX11_stolen_33 cl_11_133 rfl rfl (Nat.le_of_ble_eq_true rfl) hq ?_
      refine st_if_eq (tg := 43) (pc := 36) hC dX11_stolen_36 (by decide) (ite_im h (fun h => ?_) (fun h => ?_))
      · refine st_iconst (pc := 43) hC dX11_stolen_43 (by decide) ?_
        refine st_putfI (ci := 10) (f := 5) (pc := 44) hC dX11_stolen_44 fl_11_64 rfl rfl ?_
        refine st_aload_n (pc := 47) hC dX11_stolen_47 rfl (by decide) (by decide) ?_
        refine st_getf (ci := 10) (f := 5) (v := iV ((upS σ 66 5 2) 66 5)) (pc := 48) hC dX11_stolen_48 fl_11_64 rfl rfl ?_
        refine st_if_le (tg := 56) (pc := 51) hC dX11_stolen_51 (by decide) (ite_im h (fun h => ?_) (fun h => ?_))
        · refine st_iconst (pc := 54) hC dX11_stolen_54 (by decide) ?_
          exact st_ireturn (pc := 55) hC dX11_stolen_55 trivial h
        · refine st_iconst (pc := 56) hC dX11_stolen_56 (by decide) ?_
          refine st_istore (L2 := [rV 20 66, iV x1, lV x2, uV, lV x4, uV, iV 0, uV]) (pc := 57) hC dX11_stolen_57 (Nat.le_of_ble_eq_true rfl) rfl ?_
          refine st_iconst (pc := 59) hC dX11_stolen_59 (by decide) ?_
          refine st_istore (L2 := [rV 20 66, iV x1, lV x2, uV, lV x4, uV, iV 0, iV 0]) (pc := 60) hC dX11_stolen_60 (Nat.le_of_ble_eq_true rfl) rfl ?_
          exact h
      · refine st_iconst (pc := 39) hC dX11_stolen_39 (by decide) ?_
        refine st_goto (tg := 44) (pc := 40) hC dX11_stolen_40 (by decide) ?_
        refine st_putfI (ci := 10) (f := 5) (pc := 44) hC dX11_stolen_44 fl_11_64 rfl rfl ?_
        refine st_aload_n (pc := 47) hC dX11_stolen_47 rfl (by decide) (by decide) ?_
        refine st_getf (ci := 10) (f := 5) (v := iV ((upS σ 66 5 0) 66 5)) (pc := 48) hC dX11_stolen_48 fl_11_64 rfl rfl ?_
        refine st_if_le (tg := 56) (pc := 51) hC dX11_stolen_51 (by decide) (ite_im h (fun h => ?_) (fun h => ?_))
        · refine st_iconst (pc := 54) hC dX11_stolen_54 (by decide) ?_
          exact st_ireturn (pc := 55) hC dX11_stolen_55 trivial h
        · refine st_iconst (pc := 56) hC dX11_stolen_56 (by decide) ?_
          refine st_istore (L2 := [rV 20 66, iV x1, lV x2, uV, lV x4, uV, iV 0, uV]) (pc := 57) hC dX11_stolen_57 (Nat.le_of_ble_eq_true rfl) rfl ?_
          refine st_iconst (pc := 59) hC dX11_stolen_59 (by decide) ?_
          refine st_istore (L2 := [rV 20 66, iV x1, lV x2, uV, lV x4, uV, iV 0, iV 0]) (pc := 60) hC dX11_stolen_60 (Nat.le_of_ble_eq_true rfl) rfl ?_
          exact h
theorem bX11_stolen_62 {C : Nat → List Vv → Sg → Rs → Sg → Prop} {X : Nat → List Vv → List Vv → Sg → Prop} {Xr : List Vv → Sg → Prop} {Xt : Nat → Sg → Prop} (hC : Clo C 11 cX11_stolen (some .int) X Xr Xt) {x1 x2 x4 x6 x7 : Int} {σ : Sg} (h : ∃ v1 : Int, C MX11_coins [rV 20 66] σ (.inl [iV v1]) σ ∧ (if x7 < v1 then (∃ v2 : Int, C MX11_of [rV 20 66, iV x1, iV x7] σ (.inl [iV v2]) σ ∧ (if (0 : Int) < v2 then (∃ v3 : Int, C MX11_worthOf [rV 20 66, iV x1] σ (.inl [lV v3]) σ ∧ (∃ v4 : Int, C MX11_prime [rV 20 66, iV x7] σ (.inl [iV v4]) σ ∧ (v4 ≠ 0 ∧ (x2 ≠ 0 ∧ (if ((w64 (v3.tdiv v4)).tmod x2) = x4 then (X 62 [rV 20 66, iV x1, lV x2, uV, lV x4, uV, iV (iorI x6 (ishlI 1 x7)), iV (w32 (x7 + 1))] [] σ) else (X 62 [rV 20 66, iV x1, lV x2, uV, lV x4, uV, iV (iorI x6 0), iV (w32 (x7 + 1))] [] σ)))))) else (X 62 [rV 20 66, iV x1, lV x2, uV, lV x4, uV, iV (iorI x6 0), iV (w32 (x7 + 1))] [] σ))) else (Xr [iV x6] σ))) : X 62 [rV 20 66, iV x1, lV x2, uV, lV x4, uV, iV x6, iV x7] [] σ := by
  refine st_iload (pc := 62) hC dX11_stolen_62 rfl ?_
  refine st_aload_n (pc := 64) hC dX11_stolen_64 rfl (by decide) (by decide) ?_
  obtain ⟨v1, hq, h⟩ := h
  refine st_invV (As := []) (v := [iV v1]) (S := [iV x7]) (pc := 65) hC dX11_stolen_65 cl_11_193 rfl rfl (Nat.le_of_ble_eq_true rfl) cr_X11_coins hq ?_
  refine st_icmp_ge (tg := 121) (pc := 68) hC dX11_stolen_68 (by decide) (ite_im h (fun h => ?_) (fun h => ?_))
  · refine st_iload (pc := 71) hC dX11_stolen_71 rfl ?_
    refine st_aload_n (pc := 73) hC dX11_stolen_73 rfl (by decide) (by decide) ?_
    refine st_iload_n (pc := 74) hC dX11_stolen_74 rfl ?_
    refine st_iload (pc := 75) hC dX11_stolen_75 rfl ?_
    obtain ⟨v2, hq, h⟩ := h
    refine st_invV (As := [iV x1, iV x7]) (v := [iV v2]) (S := [iV x6]) (pc := 77) hC dX11_stolen_77 cl_11_196 rfl rfl (Nat.le_of_ble_eq_true rfl) cr_X11_of hq ?_
    refine st_if_le (tg := 111) (pc := 80) hC dX11_stolen_80 (by decide) (ite_im h (fun h => ?_) (fun h => ?_))
    · refine st_aload_n (pc := 83) hC dX11_stolen_83 rfl (by decide) (by decide) ?_
      refine st_iload_n (pc := 84) hC dX11_stolen_84 rfl ?_
      obtain ⟨v3, hq, h⟩ := h
      refine st_invV (As := [iV x1]) (v := [lV v3]) (S := [iV x6]) (pc := 85) hC dX11_stolen_85 cl_11_220 rfl rfl (Nat.le_of_ble_eq_true rfl) cr_X11_worthOf hq ?_
      refine st_aload_n (pc := 88) hC dX11_stolen_88 rfl (by decide) (by decide) ?_
      refine st_iload (pc := 89) hC dX11_stolen_89 rfl ?_
      obtain ⟨v4, hq, h⟩ := h
      refine st_invV (As := [iV x7]) (v := [iV v4]) (S := [lV v3, iV x6]) (pc := 91) hC dX11_stolen_91 cl_11_200 rfl rfl (Nat.le_of_ble_eq_true rfl) cr_X11_prime hq ?_
      refine st_i2l (pc := 94) hC dX11_stolen_94 ?_
      obtain ⟨h0, h⟩ := h
      refine st_ldiv (pc := 95) hC dX11_stolen_95 h0 ?_
      refine st_lload_n (pc := 96) hC dX11_stolen_96 rfl ?_
      obtain ⟨h0, h⟩ := h
      refine st_lrem (pc := 97) hC dX11_stolen_97 h0 ?_
      refine st_lload (pc := 98) hC dX11_stolen_98 rfl ?_
      refine st_lcmp_ne (tg := 111) (pc := 100) hC dX11_stolen_100 dX11_stolen_101 (by decide) (ite_im h (fun h => ?_) (fun h => ?_))
      · refine st_iconst (pc := 104) hC dX11_stolen_104 (by decide) ?_
        refine st_iload (pc := 105) hC dX11_stolen_105 rfl ?_
        refine st_ishl (pc := 107) hC dX11_stolen_107 ?_
        refine st_goto (tg := 112) (pc := 108) hC dX11_stolen_108 (by decide) ?_
        refine st_ior (pc := 112) hC dX11_stolen_112 ?_
        refine st_istore (L2 := [rV 20 66, iV x1, lV x2, uV, lV x4, uV, iV (iorI x6 (ishlI 1 x7)), iV x7]) (pc := 113) hC dX11_stolen_113 (Nat.le_of_ble_eq_true rfl) rfl ?_
        refine st_iinc (L2 := [rV 20 66, iV x1, lV x2, uV, lV x4, uV, iV (iorI x6 (ishlI 1 x7)), iV (w32 (x7 + 1))]) (pc := 115) hC dX11_stolen_115 rfl (Nat.le_of_ble_eq_true rfl) rfl ?_
        refine st_goto (tg := 62) (pc := 118) hC dX11_stolen_118 (by decide) ?_
        exact h
      · refine st_iconst (pc := 111) hC dX11_stolen_111 (by decide) ?_
        refine st_ior (pc := 112) hC dX11_stolen_112 ?_
        refine st_istore (L2 := [rV 20 66, iV x1, lV x2, uV, lV x4, uV, iV (iorI x6 0), iV x7]) (pc := 113) hC dX11_stolen_113 (Nat.le_of_ble_eq_true rfl) rfl ?_
        refine st_iinc (L2 := [rV 20 66, iV x1, lV x2, uV, lV x4, uV, iV (iorI x6 0), iV (w32 (x7 + 1))]) (pc := 115) hC dX11_stolen_115 rfl (Nat.le_of_ble_eq_true rfl) rfl ?_
        refine st_goto (tg := 62) (pc := 118) hC dX11_stolen_118 (by decide) ?_
        exact h
    · refine st_iconst (pc := 111) hC dX11_stolen_111 (by decide) ?_
      refine st_ior (pc := 112) hC dX11_stolen_112 ?_
      refine st_istore (L2 := [rV 20 66, iV x1, lV x2, uV, lV x4, uV, iV (iorI x6 0), iV x7]) (pc := 113) hC dX11_stolen_113 (Nat.le_of_ble_eq_true rfl) rfl ?_
      refine st_iinc (L2 := [rV 20 66, iV x1, lV x2, uV, lV x4, uV, iV (iorI x6 0), iV (w32 (x7 + 1))]) (pc := 115) hC dX11_stolen_115 rfl (Nat.le_of_ble_eq_true rfl) rfl ?_
      refine st_goto (tg := 62) (pc := 118) hC dX11_stolen_118 (by decide) ?_
      exact h
  · refine st_iload (pc := 121) hC dX11_stolen_121 rfl ?_
    exact st_ireturn (pc := 123) hC dX11_stolen_123 trivial h
theorem bX11_isFitting_0 {C : Nat → List Vv → Sg → Rs → Sg → Prop} {X : Nat → List Vv → List Vv → Sg → Prop} {Xr : List Vv → Sg → Prop} {Xt : Nat → Sg → Prop} (hC : Clo C 11 cX11_isFitting (some .boolean) X Xr Xt) {x1 x2 : Int} {σ : Sg} (h : X 3 [rV 20 66, iV x1, lV x2, uV, iV 0] [] σ) : X 0 [rV 20 66, iV x1, lV x2, uV, uV] [] σ := by
  refine st_iconst (pc := 0) hC dX11_isFitting_0 (by decide) ?_
  refine st_istore (L2 := [rV 20 66, iV x1, lV x2, uV, iV 0]) (pc := 1) hC dX11_isFitting_1 (Nat.le_of_ble_eq_true rfl) rfl ?_
  exact h
theorem bX11_isFitting_3 {C : Nat → List Vv → Sg → Rs → Sg → Prop} {X : Nat → List Vv → List Vv → Sg → Prop} {Xr : List Vv → Sg → Prop} {Xt : Nat → Sg → Prop} (hC : Clo C 11 cX11_isFitting (some .boolean) X Xr Xt) {x1 x2 x4 : Int} {σ : Sg} (h : (0 ≤ x1 ∧ x1 < 4) ∧ (if x4 < (σ 78 (x1).toNat) then ((0 ≤ (w32 ((w32 (30 * x1)) + x4)) ∧ (w32 ((w32 (30 * x1)) + x4)) < 120) ∧ ((σ 79 ((w32 ((w32 (30 * x1)) + x4))).toNat) ≠ 0 ∧ ((0 ≤ (w32 ((w32 ((w32 (30 * x1)) + x4)) + 1)) ∧ (w32 ((w32 ((w32 (30 * x1)) + x4)) + 1)) < 120) ∧ (if (x2.tmod (σ 79 ((w32 ((w32 (30 * x1)) + x4))).toNat)) = (σ 79 ((w32 ((w32 ((w32 (30 * x1)) + x4)) + 1))).toNat) then (X 3 [rV 20 66, iV x1, lV x2, uV, iV (w32 (x4 + 2))] [] σ) else (Xr [iV 0] σ))))) else (Xr [iV 1] σ))) : X 3 [rV 20 66, iV x1, lV x2, uV, iV x4] [] σ := by
  refine st_iload (pc := 3) hC dX11_isFitting_3 rfl ?_
  refine st_aload_n (pc := 5) hC dX11_isFitting_5 rfl (by decide) (by decide) ?_
  refine st_getf (ci := 10) (f := 27) (v := rV 1000004 78) (pc := 6) hC dX11_isFitting_6 fl_11_50 rfl rfl ?_
  refine st_iload_n (pc := 9) hC dX11_isFitting_9 rfl ?_
  obtain ⟨hb, h⟩ := h
  refine st_iald (n := 4) (pc := 10) hC dX11_isFitting_10 (by decide) hb ?_
  refine st_icmp_ge (tg := 54) (pc := 11) hC dX11_isFitting_11 (by decide) (ite_im h (fun h => ?_) (fun h => ?_))
  · refine st_lload_n (pc := 14) hC dX11_isFitting_14 rfl ?_
    refine st_aload_n (pc := 15) hC dX11_isFitting_15 rfl (by decide) (by decide) ?_
    refine st_getf (ci := 10) (f := 28) (v := rV 2000120 79) (pc := 16) hC dX11_isFitting_16 fl_11_53 rfl rfl ?_
    refine st_bipush (pc := 19) hC dX11_isFitting_19 (by decide) ?_
    refine st_iload_n (pc := 21) hC dX11_isFitting_21 rfl ?_
    refine st_imul (pc := 22) hC dX11_isFitting_22 ?_
    refine st_iload (pc := 23) hC dX11_isFitting_23 rfl ?_
    refine st_iadd (pc := 25) hC dX11_isFitting_25 ?_
    obtain ⟨hb, h⟩ := h
    refine st_lald (n := 120) (pc := 26) hC dX11_isFitting_26 (by decide) hb ?_
    obtain ⟨h0, h⟩ := h
    refine st_lrem (pc := 27) hC dX11_isFitting_27 h0 ?_
    refine st_aload_n (pc := 28) hC dX11_isFitting_28 rfl (by decide) (by decide) ?_
    refine st_getf (ci := 10) (f := 28) (v := rV 2000120 79) (pc := 29) hC dX11_isFitting_29 fl_11_53 rfl rfl ?_
    refine st_bipush (pc := 32) hC dX11_isFitting_32 (by decide) ?_
    refine st_iload_n (pc := 34) hC dX11_isFitting_34 rfl ?_
    refine st_imul (pc := 35) hC dX11_isFitting_35 ?_
    refine st_iload (pc := 36) hC dX11_isFitting_36 rfl ?_
    refine st_iadd (pc := 38) hC dX11_isFitting_38 ?_
    refine st_iconst (pc := 39) hC dX11_isFitting_39 (by decide) ?_
    refine st_iadd (pc := 40) hC dX11_isFitting_40 ?_
    obtain ⟨hb, h⟩ := h
    refine st_lald (n := 120) (pc := 41) hC dX11_isFitting_41 (by decide) hb ?_
    refine st_lcmp_eq (tg := 48) (pc := 42) hC dX11_isFitting_42 dX11_isFitting_43 (by decide) (ite_im h (fun h => ?_) (fun h => ?_))
    · refine st_iinc (L2 := [rV 20 66, iV x1, lV x2, uV, iV (w32 (x4 + 2))]) (pc := 48) hC dX11_isFitting_48 rfl (Nat.le_of_ble_eq_true rfl) rfl ?_
      refine st_goto (tg := 3) (pc := 51) hC dX11_isFitting_51 (by decide) ?_
      exact h
    · refine st_iconst (pc := 46) hC dX11_isFitting_46 (by decide) ?_
      exact st_ireturn (pc := 47) hC dX11_isFitting_47 (Or.inl rfl) h
  · refine st_iconst (pc := 54) hC dX11_isFitting_54 (by decide) ?_
    exact st_ireturn (pc := 55) hC dX11_isFitting_55 (Or.inr rfl) h
theorem bX11_bags_0 {C : Nat → List Vv → Sg → Rs → Sg → Prop} {X : Nat → List Vv → List Vv → Sg → Prop} {Xr : List Vv → Sg → Prop} {Xt : Nat → Sg → Prop} (hC : Clo C 11 cX11_bags (some .int) X Xr Xt) {x1 x2 x3 x4 : Int} {σ : Sg} (h : if x2 = 0 then (∃ v1 : Int, C MX11_isFitting [rV 20 66, iV x1, lV x4] σ (.inl [iV v1]) σ ∧ (if v1 = 0 then (Xr [iV 0] σ) else (if (σ 66 24) = 0 then (Xr [iV 1] (upS (upS σ 66 25 x4) 66 24 (w32 (((upS σ 66 25 x4) 66 24) - 1)))) else (Xr [iV 1] (upS σ 66 24 (w32 ((σ 66 24) - 1))))))) else (X 47 [rV 20 66, iV x1, iV x2, iV x3, lV x4, uV, iV 0, iV x3] [] σ)) : X 0 [rV 20 66, iV x1, iV x2, iV x3, lV x4, uV, uV, uV] [] σ := by
  refine st_iload_n (pc := 0) hC dX11_bags_0 rfl ?_
  refine st_if_ne (tg := 41) (pc := 1) hC dX11_bags_1 (by decide) (ite_im h (fun h => ?_) (fun h => ?_))
  · refine st_aload_n (pc := 4) hC dX11_bags_4 rfl (by decide) (by decide) ?_
    refine st_iload_n (pc := 5) hC dX11_bags_5 rfl ?_
    refine st_lload (pc := 6) hC dX11_bags_6 rfl ?_
    obtain ⟨v1, hq, h⟩ := h
    refine st_invV (As := [iV x1, lV x4]) (v := [iV v1]) (S := []) (pc := 8) hC dX11_bags_8 cl_11_333 rfl rfl (Nat.le_of_ble_eq_true rfl) cr_X11_isFitting hq ?_
    refine st_if_ne (tg := 16) (pc := 11) hC dX11_bags_11 (by decide) (ite_im h (fun h => ?_) (fun h => ?_))
    · refine st_iconst (pc := 14) hC dX11_bags_14 (by decide) ?_
      exact st_ireturn (pc := 15) hC dX11_bags_15 trivial h
    · refine st_aload_n (pc := 16) hC dX11_bags_16 rfl (by decide) (by decide) ?_
      refine st_getf (ci := 10) (f := 24) (v := iV (σ 66 24)) (pc := 17) hC dX11_bags_17 fl_11_337 rfl rfl ?_
      refine st_if_ne (tg := 29) (pc := 20) hC dX11_bags_20 (by decide) (ite_im h (fun h => ?_) (fun h => ?_))
      · refine st_aload_n (pc := 23) hC dX11_bags_23 rfl (by decide) (by decide) ?_
        refine st_lload (pc := 24) hC dX11_bags_24 rfl ?_
        refine st_putfL (ci := 10) (f := 25) (pc := 26) hC dX11_bags_26 fl_11_340 rfl rfl ?_
        refine st_aload_n (pc := 29) hC dX11_bags_29 rfl (by decide) (by decide) ?_
        refine st_dupR (pc := 30) hC dX11_bags_30 (by decide) (by decide) ?_
        refine st_getf (ci := 10) (f := 24) (v := iV ((upS σ 66 25 x4) 66 24)) (pc := 31) hC dX11_bags_31 fl_11_337 rfl rfl ?_
        refine st_iconst (pc := 34) hC dX11_bags_34 (by decide) ?_
        refine st_isub (pc := 35) hC dX11_bags_35 ?_
        refine st_putfI (ci := 10) (f := 24) (pc := 36) hC dX11_bags_36 fl_11_337 rfl rfl ?_
        refine st_iconst (pc := 39) hC dX11_bags_39 (by decide) ?_
        exact st_ireturn (pc := 40) hC dX11_bags_40 trivial h
      · refine st_aload_n (pc := 29) hC dX11_bags_29 rfl (by decide) (by decide) ?_
        refine st_dupR (pc := 30) hC dX11_bags_30 (by decide) (by decide) ?_
        refine st_getf (ci := 10) (f := 24) (v := iV (σ 66 24)) (pc := 31) hC dX11_bags_31 fl_11_337 rfl rfl ?_
        refine st_iconst (pc := 34) hC dX11_bags_34 (by decide) ?_
        refine st_isub (pc := 35) hC dX11_bags_35 ?_
        refine st_putfI (ci := 10) (f := 24) (pc := 36) hC dX11_bags_36 fl_11_337 rfl rfl ?_
        refine st_iconst (pc := 39) hC dX11_bags_39 (by decide) ?_
        exact st_ireturn (pc := 40) hC dX11_bags_40 trivial h
  · refine st_iconst (pc := 41) hC dX11_bags_41 (by decide) ?_
    refine st_istore (L2 := [rV 20 66, iV x1, iV x2, iV x3, lV x4, uV, iV 0, uV]) (pc := 42) hC dX11_bags_42 (Nat.le_of_ble_eq_true rfl) rfl ?_
    refine st_iload_n (pc := 44) hC dX11_bags_44 rfl ?_
    refine st_istore (L2 := [rV 20 66, iV x1, iV x2, iV x3, lV x4, uV, iV 0, iV x3]) (pc := 45) hC dX11_bags_45 (Nat.le_of_ble_eq_true rfl) rfl ?_
    exact h
theorem bX11_bags_47 {C : Nat → List Vv → Sg → Rs → Sg → Prop} {X : Nat → List Vv → List Vv → Sg → Prop} {Xr : List Vv → Sg → Prop} {Xt : Nat → Sg → Prop} (hC : Clo C 11 cX11_bags (some .int) X Xr Xt) {x1 x2 x3 x4 x6 x7 : Int} {σ : Sg} (h : ∃ v1 : Int, C MX11_coins [rV 20 66] σ (.inl [iV v1]) σ ∧ (if x7 < v1 then (∃ v2 : Int, C MX11_prime [rV 20 66, iV x7] σ (.inl [iV v2]) σ ∧ (∃ v3 : Int, ∃ σ3 : Sg, C MX11_bags [rV 20 66, iV x1, iV (w32 (x2 - 1)), iV x7, lV (w64 (x4 * v2))] σ (.inl [iV v3]) σ3 ∧ (X 47 [rV 20 66, iV x1, iV x2, iV x3, lV x4, uV, iV (w32 (x6 + v3)), iV (w32 (x7 + 1))] [] σ3))) else (Xr [iV x6] σ))) : X 47 [rV 20 66, iV x1, iV x2, iV x3, lV x4, uV, iV x6, iV x7] [] σ := by
  refine st_iload (pc := 47) hC dX11_bags_47 rfl ?_
  refine st_aload_n (pc := 49) hC dX11_bags_49 rfl (by decide) (by decide) ?_
  obtain ⟨v1, hq, h⟩ := h
  refine st_invV (As := []) (v := [iV v1]) (S := [iV x7]) (pc := 50) hC dX11_bags_50 cl_11_193 rfl rfl (Nat.le_of_ble_eq_true rfl) cr_X11_coins hq ?_
  refine st_icmp_ge (tg := 87) (pc := 53) hC dX11_bags_53 (by decide) (ite_im h (fun h => ?_) (fun h => ?_))
  · refine st_iload (pc := 56) hC dX11_bags_56 rfl ?_
    refine st_aload_n (pc := 58) hC dX11_bags_58 rfl (by decide) (by decide) ?_
    refine st_iload_n (pc := 59) hC dX11_bags_59 rfl ?_
    refine st_iload_n (pc := 60) hC dX11_bags_60 rfl ?_
    refine st_iconst (pc := 61) hC dX11_bags_61 (by decide) ?_
    refine st_isub (pc := 62) hC dX11_bags_62 ?_
    refine st_iload (pc := 63) hC dX11_bags_63 rfl ?_
    refine st_lload (pc := 65) hC dX11_bags_65 rfl ?_
    refine st_aload_n (pc := 67) hC dX11_bags_67 rfl (by decide) (by decide) ?_
    refine st_iload (pc := 68) hC dX11_bags_68 rfl ?_
    obtain ⟨v2, hq, h⟩ := h
    refine st_invV (As := [iV x7]) (v := [iV v2]) (S := [lV x4, iV x7, iV (w32 (x2 - 1)), iV x1, rV 20 66, iV x6]) (pc := 70) hC dX11_bags_70 cl_11_200 rfl rfl (Nat.le_of_ble_eq_true rfl) cr_X11_prime hq ?_
    refine st_i2l (pc := 73) hC dX11_bags_73 ?_
    refine st_lmul (pc := 74) hC dX11_bags_74 ?_
    obtain ⟨v3, σ3, hq, h⟩ := h
    refine st_invV (As := [iV x1, iV (w32 (x2 - 1)), iV x7, lV (w64 (x4 * v2))]) (v := [iV v3]) (S := [iV x6]) (pc := 75) hC dX11_bags_75 cl_11_344 rfl rfl (Nat.le_of_ble_eq_true rfl) cr_X11_bags hq ?_
    refine st_iadd (pc := 78) hC dX11_bags_78 ?_
    refine st_istore (L2 := [rV 20 66, iV x1, iV x2, iV x3, lV x4, uV, iV (w32 (x6 + v3)), iV x7]) (pc := 79) hC dX11_bags_79 (Nat.le_of_ble_eq_true rfl) rfl ?_
    refine st_iinc (L2 := [rV 20 66, iV x1, iV x2, iV x3, lV x4, uV, iV (w32 (x6 + v3)), iV (w32 (x7 + 1))]) (pc := 81) hC dX11_bags_81 rfl (Nat.le_of_ble_eq_true rfl) rfl ?_
    refine st_goto (tg := 47) (pc := 84) hC dX11_bags_84 (by decide) ?_
    exact h
  · refine st_iload (pc := 87) hC dX11_bags_87 rfl ?_
    exact st_ireturn (pc := 89) hC dX11_bags_89 trivial h
theorem bX11_fitting_0 {C : Nat → List Vv → Sg → Rs → Sg → Prop} {X : Nat → List Vv → List Vv → Sg → Prop} {Xr : List Vv → Sg → Prop} {Xt : Nat → Sg → Prop} (hC : Clo C 11 cX11_fitting (some .long) X Xr Xt) {x1 x2 x3 : Int} {σ : Sg} (h : ∃ v1 : Int, C MX11_trayFault [rV 20 66, iV x1] σ (.inl [iV v1]) σ ∧ (if ((upS σ 66 5 v1) 66 5) = 0 then (∃ v2 : Int, C MX11_within [lV x2, lV 1, lV 4] (upS σ 66 5 v1) (.inl [iV v2]) (upS σ 66 5 v1) ∧ (if v2 = 0 then (X 48 [rV 20 66, iV x1, iV x2, iV x3, iV 0, uV, uV] [] (upS (upS σ 66 5 v1) 66 5 3)) else ((0 ≤ x1 ∧ x1 < 4) ∧ (if (((upS σ 66 5 v1) 78 (x1).toNat).tmod 2) = 1 then (X 48 [rV 20 66, iV x1, iV x2, iV x3, iV 0, uV, uV] [] (upS (upS σ 66 5 v1) 66 5 3)) else (X 48 [rV 20 66, iV x1, iV x2, iV x3, iV 0, uV, uV] [] (upS σ 66 5 v1)))))) else (X 48 [rV 20 66, iV x1, iV x2, iV x3, iV 0, uV, uV] [] (upS σ 66 5 v1)))) : X 0 [rV 20 66, iV x1, iV x2, iV x3, uV, uV, uV] [] σ := by
  refine st_aload_n (pc := 0) hC dX11_fitting_0 rfl (by decide) (by decide) ?_
  refine st_aload_n (pc := 1) hC dX11_fitting_1 rfl (by decide) (by decide) ?_
  refine st_iload_n (pc := 2) hC dX11_fitting_2 rfl ?_
  obtain ⟨v1, hq, h⟩ := h
  refine st_invV (As := [iV x1]) (v := [iV v1]) (S := [rV 20 66]) (pc := 3) hC dX11_fitting_3 cl_11_271 rfl rfl (Nat.le_of_ble_eq_true rfl) cr_X11_trayFault hq ?_
  refine st_putfI (ci := 10) (f := 5) (pc := 6) hC dX11_fitting_6 fl_11_64 rfl rfl ?_
  refine st_aload_n (pc := 9) hC dX11_fitting_9 rfl (by decide) (by decide) ?_
  refine st_getf (ci := 10) (f := 5) (v := iV ((upS σ 66 5 v1) 66 5)) (pc := 10) hC dX11_fitting_10 fl_11_64 rfl rfl ?_
  refine st_if_ne (tg := 45) (pc := 13) hC dX11_fitting_13 (by decide) (ite_im h (fun h => ?_) (fun h => ?_))
  · refine st_iload_n (pc := 16) hC dX11_fitting_16 rfl ?_
    refine st_i2l (pc := 17) hC dX11_fitting_17 ?_
    refine st_lconst1 (pc := 18) hC dX11_fitting_18 ?_
    refine st_ldc2 (pc := 19) hC dX11_fitting_19 rfl ?_
    obtain ⟨v2, hq, h⟩ := h
    refine st_invS (As := [lV x2, lV 1, lV 4]) (v := [iV v2]) (S := []) (pc := 22) hC dX11_fitting_22 cl_11_133 rfl rfl (Nat.le_of_ble_eq_true rfl) hq ?_
    refine st_if_eq (tg := 40) (pc := 25) hC dX11_fitting_25 (by decide) (ite_im h (fun h => ?_) (fun h => ?_))
    · refine st_aload_n (pc := 40) hC dX11_fitting_40 rfl (by decide) (by decide) ?_
      refine st_iconst (pc := 41) hC dX11_fitting_41 (by decide) ?_
      refine st_putfI (ci := 10) (f := 5) (pc := 42) hC dX11_fitting_42 fl_11_64 rfl rfl ?_
      refine st_iconst (pc := 45) hC dX11_fitting_45 (by decide) ?_
      refine st_istore (L2 := [rV 20 66, iV x1, iV x2, iV x3, iV 0, uV, uV]) (pc := 46) hC dX11_fitting_46 (Nat.le_of_ble_eq_true rfl) rfl ?_
      exact h
    · refine st_aload_n (pc := 28) hC dX11_fitting_28 rfl (by decide) (by decide) ?_
      refine st_getf (ci := 10) (f := 27) (v := rV 1000004 78) (pc := 29) hC dX11_fitting_29 fl_11_50 rfl rfl ?_
      refine st_iload_n (pc := 32) hC dX11_fitting_32 rfl ?_
      obtain ⟨hb, h⟩ := h
      refine st_iald (n := 4) (pc := 33) hC dX11_fitting_33 (by decide) hb ?_
      refine st_iconst (pc := 34) hC dX11_fitting_34 (by decide) ?_
      refine st_irem (pc := 35) hC dX11_fitting_35 (by decide) ?_
      refine st_iconst (pc := 36) hC dX11_fitting_36 (by decide) ?_
      refine st_icmp_ne (tg := 45) (pc := 37) hC dX11_fitting_37 (by decide) (ite_im h (fun h => ?_) (fun h => ?_))
      · refine st_aload_n (pc := 40) hC dX11_fitting_40 rfl (by decide) (by decide) ?_
        refine st_iconst (pc := 41) hC dX11_fitting_41 (by decide) ?_
        refine st_putfI (ci := 10) (f := 5) (pc := 42) hC dX11_fitting_42 fl_11_64 rfl rfl ?_
        refine st_iconst (pc := 45) hC dX11_fitting_45 (by decide) ?_
        refine st_istore (L2 := [rV 20 66, iV x1, iV x2, iV x3, iV 0, uV, uV]) (pc := 46) hC dX11_fitting_46 (Nat.le_of_ble_eq_true rfl) rfl ?_
        exact h
      · refine st_iconst (pc := 45) hC dX11_fitting_45 (by decide) ?_
        refine st_istore (L2 := [rV 20 66, iV x1, iV x2, iV x3, iV 0, uV, uV]) (pc := 46) hC dX11_fitting_46 (Nat.le_of_ble_eq_true rfl) rfl ?_
        exact h
  · refine st_iconst (pc := 45) hC dX11_fitting_45 (by decide) ?_
    refine st_istore (L2 := [rV 20 66, iV x1, iV x2, iV x3, iV 0, uV, uV]) (pc := 46) hC dX11_fitting_46 (Nat.le_of_ble_eq_true rfl) rfl ?_
    exact h
theorem bX11_fitting_48 {C : Nat → List Vv → Sg → Rs → Sg → Prop} {X : Nat → List Vv → List Vv → Sg → Prop} {Xr : List Vv → Sg → Prop} {Xt : Nat → Sg → Prop} (hC : Clo C 11 cX11_fitting (some .long) X Xr Xt) {x1 x2 x3 x4 : Int} {σ : Sg} (h : if (σ 66 5) = 0 then ((0 ≤ x1 ∧ x1 < 4) ∧ (if x4 < (σ 78 (x1).toNat) then ((0 ≤ (w32 ((w32 (30 * x1)) + x4)) ∧ (w32 ((w32 (30 * x1)) + x4)) < 120) ∧ (∃ v1 : Int, C MX11_within [lV (σ 79 ((w32 ((w32 (30 * x1)) + x4))).toNat), lV 2, lV 1000] σ (.inl [iV v1]) σ ∧ (if v1 = 0 then (X 48 [rV 20 66, iV x1, iV x2, iV x3, iV (w32 (x4 + 2)), uV, uV] [] (upS σ 66 5 3)) else ((0 ≤ (w32 ((w32 ((w32 (30 * x1)) + x4)) + 1)) ∧ (w32 ((w32 ((w32 (30 * x1)) + x4)) + 1)) < 120) ∧ (∃ v2 : Int, C MX11_within [lV (σ 79 ((w32 ((w32 ((w32 (30 * x1)) + x4)) + 1))).toNat), lV 0, lV (w64 ((σ 79 ((w32 ((w32 (30 * x1)) + x4))).toNat) - 1))] σ (.inl [iV v2]) σ ∧ (if v2 = 0 then (X 48 [rV 20 66, iV x1, iV x2, iV x3, iV (w32 (x4 + 2)), uV, uV] [] (upS σ 66 5 3)) else (X 48 [rV 20 66, iV x1, iV x2, iV x3, iV (w32 (x4 + 2)), uV, uV] [] σ))))))) else (if (0 : Int) < (σ 66 5) then (Xr [lV 0] σ) else (∃ v3 : Int, ∃ σ3 : Sg, C MX11_bags [rV 20 66, iV x1, iV x2, iV 0, lV 1] (upS (upS σ 66 24 x3) 66 25 (-1)) (.inl [iV v3]) σ3 ∧ (if x3 = (-1) then (Xr [lV v3] σ3) else (∃ v4 : Int, C MX11_within [lV x3, lV 0, lV (w32 (v3 - 1))] σ3 (.inl [iV v4]) σ3 ∧ (if v4 = 0 then (Xr [lV (-1)] σ3) else (Xr [lV (σ3 66 25)] σ3)))))))) else (if (0 : Int) < (σ 66 5) then (Xr [lV 0] σ) else (∃ v5 : Int, ∃ σ5 : Sg, C MX11_bags [rV 20 66, iV x1, iV x2, iV 0, lV 1] (upS (upS σ 66 24 x3) 66 25 (-1)) (.inl [iV v5]) σ5 ∧ (if x3 = (-1) then (Xr [lV v5] σ5) else (∃ v6 : Int, C MX11_within [lV x3, lV 0, lV (w32 (v5 - 1))] σ5 (.inl [iV v6]) σ5 ∧ (if v6 = 0 then (Xr [lV (-1)] σ5) else (Xr [lV (σ5 66 25)] σ5))))))) : X 48 [rV 20 66, iV x1, iV x2, iV x3, iV x4, uV, uV] [] σ := by
  refine st_aload_n (pc := 48) hC dX11_fitting_48 rfl (by decide) (by decide) ?_
  refine st_getf (ci := 10) (f := 5) (v := iV (σ 66 5)) (pc := 49) hC dX11_fitting_49 fl_11_64 rfl rfl ?_
  refine st_if_ne (tg := 130) (pc := 52) hC dX11_fitting_52 (by decide) (ite_im h (fun h => ?_) (fun h => ?_))
  · refine st_iload (pc := 55) hC dX11_fitting_55 rfl ?_
    refine st_aload_n (pc := 57) hC dX11_fitting_57 rfl (by decide) (by decide) ?_
    refine st_getf (ci := 10) (f := 27) (v := rV 1000004 78) (pc := 58) hC dX11_fitting_58 fl_11_50 rfl rfl ?_
    refine st_iload_n (pc := 61) hC dX11_fitting_61 rfl ?_
    obtain ⟨hb, h⟩ := h
    refine st_iald (n := 4) (pc := 62) hC dX11_fitting_62 (by decide) hb ?_
    refine st_icmp_ge (tg := 130) (pc := 63) hC dX11_fitting_63 (by decide) (ite_im h (fun h => ?_) (fun h => ?_))
    · refine st_aload_n (pc := 66) hC dX11_fitting_66 rfl (by decide) (by decide) ?_
      refine st_getf (ci := 10) (f := 28) (v := rV 2000120 79) (pc := 67) hC dX11_fitting_67 fl_11_53 rfl rfl ?_
      refine st_bipush (pc := 70) hC dX11_fitting_70 (by decide) ?_
      refine st_iload_n (pc := 72) hC dX11_fitting_72 rfl ?_
      refine st_imul (pc := 73) hC dX11_fitting_73 ?_
      refine st_iload (pc := 74) hC dX11_fitting_74 rfl ?_
      refine st_iadd (pc := 76) hC dX11_fitting_76 ?_
      obtain ⟨hb, h⟩ := h
      refine st_lald (n := 120) (pc := 77) hC dX11_fitting_77 (by decide) hb ?_
      refine st_lstore (L2 := [rV 20 66, iV x1, iV x2, iV x3, iV x4, lV (σ 79 ((w32 ((w32 (30 * x1)) + x4))).toNat), uV]) (pc := 78) hC dX11_fitting_78 (Nat.le_of_ble_eq_true rfl) rfl ?_
      refine st_lload (pc := 80) hC dX11_fitting_80 rfl ?_
      refine st_ldc2 (pc := 82) hC dX11_fitting_82 rfl ?_
      refine st_ldc2 (pc := 85) hC dX11_fitting_85 rfl ?_
      obtain ⟨v1, hq, h⟩ := h
      refine st_invS (As := [lV (σ 79 ((w32 ((w32 (30 * x1)) + x4))).toNat), lV 2, lV 1000]) (v := [iV v1]) (S := []) (pc := 88) hC dX11_fitting_88 cl_11_133 rfl rfl (Nat.le_of_ble_eq_true rfl) hq ?_
      refine st_if_eq (tg := 119) (pc := 91) hC dX11_fitting_91 (by decide) (ite_im h (fun h => ?_) (fun h => ?_))
      · refine st_aload_n (pc := 119) hC dX11_fitting_119 rfl (by decide) (by decide) ?_
        refine st_iconst (pc := 120) hC dX11_fitting_120 (by decide) ?_
        refine st_putfI (ci := 10) (f := 5) (pc := 121) hC dX11_fitting_121 fl_11_64 rfl rfl ?_
        refine st_iinc (L2 := [rV 20 66, iV x1, iV x2, iV x3, iV (w32 (x4 + 2)), lV (σ 79 ((w32 ((w32 (30 * x1)) + x4))).toNat), uV]) (pc := 124) hC dX11_fitting_124 rfl (Nat.le_of_ble_eq_true rfl) rfl ?_
        refine st_goto (tg := 48) (pc := 127) hC dX11_fitting_127 (by decide) ?_
        exact st_fg (L2 := [rV 20 66, iV x1, iV x2, iV x3, iV (w32 (x4 + 2)), uV, uV]) hC ⟨Or.inl rfl, Or.inl rfl, Or.inl rfl, Or.inl rfl, Or.inl rfl, Or.inr rfl, Or.inl rfl, trivial⟩ h
      · refine st_aload_n (pc := 94) hC dX11_fitting_94 rfl (by decide) (by decide) ?_
        refine st_getf (ci := 10) (f := 28) (v := rV 2000120 79) (pc := 95) hC dX11_fitting_95 fl_11_53 rfl rfl ?_
        refine st_bipush (pc := 98) hC dX11_fitting_98 (by decide) ?_
        refine st_iload_n (pc := 100) hC dX11_fitting_100 rfl ?_
        refine st_imul (pc := 101) hC dX11_fitting_101 ?_
        refine st_iload (pc := 102) hC dX11_fitting_102 rfl ?_
        refine st_iadd (pc := 104) hC dX11_fitting_104 ?_
        refine st_iconst (pc := 105) hC dX11_fitting_105 (by decide) ?_
        refine st_iadd (pc := 106) hC dX11_fitting_106 ?_
        obtain ⟨hb, h⟩ := h
        refine st_lald (n := 120) (pc := 107) hC dX11_fitting_107 (by decide) hb ?_
        refine st_lconst0 (pc := 108) hC dX11_fitting_108 ?_
        refine st_lload (pc := 109) hC dX11_fitting_109 rfl ?_
        refine st_lconst1 (pc := 111) hC dX11_fitting_111 ?_
        refine st_lsub (pc := 112) hC dX11_fitting_112 ?_
        obtain ⟨v2, hq, h⟩ := h
        refine st_invS (As := [lV (σ 79 ((w32 ((w32 ((w32 (30 * x1)) + x4)) + 1))).toNat), lV 0, lV (w64 ((σ 79 ((w32 ((w32 (30 * x1)) + x4))).toNat) - 1))]) (v := [iV v2]) (S := []) (pc := 113) hC dX11_fitting_113 cl_11_133 rfl rfl (Nat.le_of_ble_eq_true rfl) hq ?_
        refine st_if_ne (tg := 124) (pc := 116) hC dX11_fitting_116 (by decide) (ite_im h (fun h => ?_) (fun h => ?_))
        · refine st_aload_n (pc := 119) hC dX11_fitting_119 rfl (by decide) (by decide) ?_
          refine st_iconst (pc := 120) hC dX11_fitting_120 (by decide) ?_
          refine st_putfI (ci := 10) (f := 5) (pc := 121) hC dX11_fitting_121 fl_11_64 rfl rfl ?_
          refine st_iinc (L2 := [rV 20 66, iV x1, iV x2, iV x3, iV (w32 (x4 + 2)), lV (σ 79 ((w32 ((w32 (30 * x1)) + x4))).toNat), uV]) (pc := 124) hC dX11_fitting_124 rfl (Nat.le_of_ble_eq_true rfl) rfl ?_
          refine st_goto (tg := 48) (pc := 127) hC dX11_fitting_127 (by decide) ?_
          exact st_fg (L2 := [rV 20 66, iV x1, iV x2, iV x3, iV (w32 (x4 + 2)), uV, uV]) hC ⟨Or.inl rfl, Or.inl rfl, Or.inl rfl, Or.inl rfl, Or.inl rfl, Or.inr rfl, Or.inl rfl, trivial⟩ h
        · refine st_iinc (L2 := [rV 20 66, iV x1, iV x2, iV x3, iV (w32 (x4 + 2)), lV (σ 79 ((w32 ((w32 (30 * x1)) + x4))).toNat), uV]) (pc := 124) hC dX11_fitting_124 rfl (Nat.le_of_ble_eq_true rfl) rfl ?_
          refine st_goto (tg := 48) (pc := 127) hC dX11_fitting_127 (by decide) ?_
          exact st_fg (L2 := [rV 20 66, iV x1, iV x2, iV x3, iV (w32 (x4 + 2)), uV, uV]) hC ⟨Or.inl rfl, Or.inl rfl, Or.inl rfl, Or.inl rfl, Or.inl rfl, Or.inr rfl, Or.inl rfl, trivial⟩ h
    · refine st_aload_n (pc := 130) hC dX11_fitting_130 rfl (by decide) (by decide) ?_
      refine st_getf (ci := 10) (f := 5) (v := iV (σ 66 5)) (pc := 131) hC dX11_fitting_131 fl_11_64 rfl rfl ?_
      refine st_if_le (tg := 139) (pc := 134) hC dX11_fitting_134 (by decide) (ite_im h (fun h => ?_) (fun h => ?_))
      · refine st_lconst0 (pc := 137) hC dX11_fitting_137 ?_
        exact st_lreturn (pc := 138) hC dX11_fitting_138 h
      · refine st_aload_n (pc := 139) hC dX11_fitting_139 rfl (by decide) (by decide) ?_
        refine st_iload_n (pc := 140) hC dX11_fitting_140 rfl ?_
        refine st_putfI (ci := 10) (f := 24) (pc := 141) hC dX11_fitting_141 fl_11_337 rfl rfl ?_
        refine st_aload_n (pc := 144) hC dX11_fitting_144 rfl (by decide) (by decide) ?_
        refine st_ldc2 (pc := 145) hC dX11_fitting_145 rfl ?_
        refine st_putfL (ci := 10) (f := 25) (pc := 148) hC dX11_fitting_148 fl_11_340 rfl rfl ?_
        refine st_aload_n (pc := 151) hC dX11_fitting_151 rfl (by decide) (by decide) ?_
        refine st_iload_n (pc := 152) hC dX11_fitting_152 rfl ?_
        refine st_iload_n (pc := 153) hC dX11_fitting_153 rfl ?_
        refine st_iconst (pc := 154) hC dX11_fitting_154 (by decide) ?_
        refine st_lconst1 (pc := 155) hC dX11_fitting_155 ?_
        obtain ⟨v3, σ3, hq, h⟩ := h
        refine st_invV (As := [iV x1, iV x2, iV 0, lV 1]) (v := [iV v3]) (S := []) (pc := 156) hC dX11_fitting_156 cl_11_344 rfl rfl (Nat.le_of_ble_eq_true rfl) cr_X11_bags hq ?_
        refine st_istore (L2 := [rV 20 66, iV x1, iV x2, iV x3, iV v3, uV, uV]) (pc := 159) hC dX11_fitting_159 (Nat.le_of_ble_eq_true rfl) rfl ?_
        refine st_iload_n (pc := 161) hC dX11_fitting_161 rfl ?_
        refine st_iconst (pc := 162) hC dX11_fitting_162 (by decide) ?_
        refine st_icmp_ne (tg := 172) (pc := 163) hC dX11_fitting_163 (by decide) (ite_im h (fun h => ?_) (fun h => ?_))
        · refine st_iload (pc := 166) hC dX11_fitting_166 rfl ?_
          refine st_i2l (pc := 168) hC dX11_fitting_168 ?_
          refine st_goto (tg := 196) (pc := 169) hC dX11_fitting_169 (by decide) ?_
          exact st_lreturn (pc := 196) hC dX11_fitting_196 h
        · refine st_iload_n (pc := 172) hC dX11_fitting_172 rfl ?_
          refine st_i2l (pc := 173) hC dX11_fitting_173 ?_
          refine st_lconst0 (pc := 174) hC dX11_fitting_174 ?_
          refine st_iload (pc := 175) hC dX11_fitting_175 rfl ?_
          refine st_iconst (pc := 177) hC dX11_fitting_177 (by decide) ?_
          refine st_isub (pc := 178) hC dX11_fitting_178 ?_
          refine st_i2l (pc := 179) hC dX11_fitting_179 ?_
          obtain ⟨v4, hq, h⟩ := h
          refine st_invS (As := [lV x3, lV 0, lV (w32 (v3 - 1))]) (v := [iV v4]) (S := []) (pc := 180) hC dX11_fitting_180 cl_11_133 rfl rfl (Nat.le_of_ble_eq_true rfl) hq ?_
          refine st_if_eq (tg := 193) (pc := 183) hC dX11_fitting_183 (by decide) (ite_im h (fun h => ?_) (fun h => ?_))
          · refine st_ldc2 (pc := 193) hC dX11_fitting_193 rfl ?_
            exact st_lreturn (pc := 196) hC dX11_fitting_196 h
          · refine st_aload_n (pc := 186) hC dX11_fitting_186 rfl (by decide) (by decide) ?_
            refine st_getf (ci := 10) (f := 25) (v := lV (σ3 66 25)) (pc := 187) hC dX11_fitting_187 fl_11_340 rfl rfl ?_
            refine st_goto (tg := 196) (pc := 190) hC dX11_fitting_190 (by decide) ?_
            exact st_lreturn (pc := 196) hC dX11_fitting_196 h
  · refine st_aload_n (pc := 130) hC dX11_fitting_130 rfl (by decide) (by decide) ?_
    refine st_getf (ci := 10) (f := 5) (v := iV (σ 66 5)) (pc := 131) hC dX11_fitting_131 fl_11_64 rfl rfl ?_
    refine st_if_le (tg := 139) (pc := 134) hC dX11_fitting_134 (by decide) (ite_im h (fun h => ?_) (fun h => ?_))
    · refine st_lconst0 (pc := 137) hC dX11_fitting_137 ?_
      exact st_lreturn (pc := 138) hC dX11_fitting_138 h
    · refine st_aload_n (pc := 139) hC dX11_fitting_139 rfl (by decide) (by decide) ?_
      refine st_iload_n (pc := 140) hC dX11_fitting_140 rfl ?_
      refine st_putfI (ci := 10) (f := 24) (pc := 141) hC dX11_fitting_141 fl_11_337 rfl rfl ?_
      refine st_aload_n (pc := 144) hC dX11_fitting_144 rfl (by decide) (by decide) ?_
      refine st_ldc2 (pc := 145) hC dX11_fitting_145 rfl ?_
      refine st_putfL (ci := 10) (f := 25) (pc := 148) hC dX11_fitting_148 fl_11_340 rfl rfl ?_
      refine st_aload_n (pc := 151) hC dX11_fitting_151 rfl (by decide) (by decide) ?_
      refine st_iload_n (pc := 152) hC dX11_fitting_152 rfl ?_
      refine st_iload_n (pc := 153) hC dX11_fitting_153 rfl ?_
      refine st_iconst (pc := 154) hC dX11_fitting_154 (by decide) ?_
      refine st_lconst1 (pc := 155) hC dX11_fitting_155 ?_
      obtain ⟨v5, σ5, hq, h⟩ := h
      refine st_invV (As := [iV x1, iV x2, iV 0, lV 1]) (v := [iV v5]) (S := []) (pc := 156) hC dX11_fitting_156 cl_11_344 rfl rfl (Nat.le_of_ble_eq_true rfl) cr_X11_bags hq ?_
      refine st_istore (L2 := [rV 20 66, iV x1, iV x2, iV x3, iV v5, uV, uV]) (pc := 159) hC dX11_fitting_159 (Nat.le_of_ble_eq_true rfl) rfl ?_
      refine st_iload_n (pc := 161) hC dX11_fitting_161 rfl ?_
      refine st_iconst (pc := 162) hC dX11_fitting_162 (by decide) ?_
      refine st_icmp_ne (tg := 172) (pc := 163) hC dX11_fitting_163 (by decide) (ite_im h (fun h => ?_) (fun h => ?_))
      · refine st_iload (pc := 166) hC dX11_fitting_166 rfl ?_
        refine st_i2l (pc := 168) hC dX11_fitting_168 ?_
        refine st_goto (tg := 196) (pc := 169) hC dX11_fitting_169 (by decide) ?_
        exact st_lreturn (pc := 196) hC dX11_fitting_196 h
      · refine st_iload_n (pc := 172) hC dX11_fitting_172 rfl ?_
        refine st_i2l (pc := 173) hC dX11_fitting_173 ?_
        refine st_lconst0 (pc := 174) hC dX11_fitting_174 ?_
        refine st_iload (pc := 175) hC dX11_fitting_175 rfl ?_
        refine st_iconst (pc := 177) hC dX11_fitting_177 (by decide) ?_
        refine st_isub (pc := 178) hC dX11_fitting_178 ?_
        refine st_i2l (pc := 179) hC dX11_fitting_179 ?_
        obtain ⟨v6, hq, h⟩ := h
        refine st_invS (As := [lV x3, lV 0, lV (w32 (v5 - 1))]) (v := [iV v6]) (S := []) (pc := 180) hC dX11_fitting_180 cl_11_133 rfl rfl (Nat.le_of_ble_eq_true rfl) hq ?_
        refine st_if_eq (tg := 193) (pc := 183) hC dX11_fitting_183 (by decide) (ite_im h (fun h => ?_) (fun h => ?_))
        · refine st_ldc2 (pc := 193) hC dX11_fitting_193 rfl ?_
          exact st_lreturn (pc := 196) hC dX11_fitting_196 h
        · refine st_aload_n (pc := 186) hC dX11_fitting_186 rfl (by decide) (by decide) ?_
          refine st_getf (ci := 10) (f := 25) (v := lV (σ5 66 25)) (pc := 187) hC dX11_fitting_187 fl_11_340 rfl rfl ?_
          refine st_goto (tg := 196) (pc := 190) hC dX11_fitting_190 (by decide) ?_
          exact st_lreturn (pc := 196) hC dX11_fitting_196 h
theorem bX11_leastFactor_0 {C : Nat → List Vv → Sg → Rs → Sg → Prop} {X : Nat → List Vv → List Vv → Sg → Prop} {Xr : List Vv → Sg → Prop} {Xt : Nat → Sg → Prop} (hC : Clo C 11 cX11_leastFactor (some .int) X Xr Xt) {x0 : Int} {σ : Sg} (h : X 2 [iV x0, iV 2] [] σ) : X 0 [iV x0, uV] [] σ := by
  refine st_iconst (pc := 0) hC dX11_leastFactor_0 (by decide) ?_
  refine st_istore_n (L2 := [iV x0, iV 2]) (pc := 1) hC dX11_leastFactor_1 (Nat.le_of_ble_eq_true rfl) rfl ?_
  exact h
theorem bX11_leastFactor_2 {C : Nat → List Vv → Sg → Rs → Sg → Prop} {X : Nat → List Vv → List Vv → Sg → Prop} {Xr : List Vv → Sg → Prop} {Xt : Nat → Sg → Prop} (hC : Clo C 11 cX11_leastFactor (some .int) X Xr Xt) {x0 x1 : Int} {σ : Sg} (h : x1 ≠ 0 ∧ (if (w32 (x0.tdiv x1)) < x1 then (Xr [iV x0] σ) else (x1 ≠ 0 ∧ (if (x0.tmod x1) = 0 then (Xr [iV x1] σ) else (X 2 [iV x0, iV (w32 (x1 + 1))] [] σ))))) : X 2 [iV x0, iV x1] [] σ := by
  refine st_iload_n (pc := 2) hC dX11_leastFactor_2 rfl ?_
  refine st_iload_n (pc := 3) hC dX11_leastFactor_3 rfl ?_
  refine st_iload_n (pc := 4) hC dX11_leastFactor_4 rfl ?_
  obtain ⟨h0, h⟩ := h
  refine st_idiv (pc := 5) hC dX11_leastFactor_5 h0 ?_
  refine st_icmp_gt (tg := 23) (pc := 6) hC dX11_leastFactor_6 (by decide) (ite_im h (fun h => ?_) (fun h => ?_))
  · refine st_iload_n (pc := 23) hC dX11_leastFactor_23 rfl ?_
    exact st_ireturn (pc := 24) hC dX11_leastFactor_24 trivial h
  · refine st_iload_n (pc := 9) hC dX11_leastFactor_9 rfl ?_
    refine st_iload_n (pc := 10) hC dX11_leastFactor_10 rfl ?_
    obtain ⟨h0, h⟩ := h
    refine st_irem (pc := 11) hC dX11_leastFactor_11 h0 ?_
    refine st_if_ne (tg := 17) (pc := 12) hC dX11_leastFactor_12 (by decide) (ite_im h (fun h => ?_) (fun h => ?_))
    · refine st_iload_n (pc := 15) hC dX11_leastFactor_15 rfl ?_
      exact st_ireturn (pc := 16) hC dX11_leastFactor_16 trivial h
    · refine st_iinc (L2 := [iV x0, iV (w32 (x1 + 1))]) (pc := 17) hC dX11_leastFactor_17 rfl (Nat.le_of_ble_eq_true rfl) rfl ?_
      refine st_goto (tg := 2) (pc := 20) hC dX11_leastFactor_20 (by decide) ?_
      exact h
theorem bX11_isCounted_0 {C : Nat → List Vv → Sg → Rs → Sg → Prop} {X : Nat → List Vv → List Vv → Sg → Prop} {Xr : List Vv → Sg → Prop} {Xt : Nat → Sg → Prop} (hC : Clo C 11 cX11_isCounted (some .boolean) X Xr Xt) {x0 : Int} {σ : Sg} (h : ∃ v1 : Int, C MX11_within [lV x0, lV 1, lV 1000000000] σ (.inl [iV v1]) σ ∧ ((v1 = 0 ∨ v1 = 1) ∧ Xr [iV v1] σ)) : X 0 [iV x0] [] σ := by
  refine st_iload_n (pc := 0) hC dX11_isCounted_0 rfl ?_
  refine st_i2l (pc := 1) hC dX11_isCounted_1 ?_
  refine st_lconst1 (pc := 2) hC dX11_isCounted_2 ?_
  refine st_ldc2 (pc := 3) hC dX11_isCounted_3 rfl ?_
  obtain ⟨v1, hq, h⟩ := h
  refine st_invS (As := [lV x0, lV 1, lV 1000000000]) (v := [iV v1]) (S := []) (pc := 6) hC dX11_isCounted_6 cl_11_133 rfl rfl (Nat.le_of_ble_eq_true rfl) hq ?_
  exact st_ireturn (pc := 9) hC dX11_isCounted_9 h.1 h.2
theorem bX11_trial_0 {C : Nat → List Vv → Sg → Rs → Sg → Prop} {X : Nat → List Vv → List Vv → Sg → Prop} {Xr : List Vv → Sg → Prop} {Xt : Nat → Sg → Prop} (hC : Clo C 11 cX11_trial (some .int) X Xr Xt) {x1 x2 : Int} {σ : Sg} (h : ∃ v1 : Int, C MX11_isCounted [iV x1] σ (.inl [iV v1]) σ ∧ (if v1 = 0 then (if (0 : Int) < ((upS σ 66 5 1) 66 5) then (Xr [iV 0] (upS σ 66 5 1)) else (if x2 = 0 then (∃ v2 : Int, C MX11_leastFactor [iV x1] (upS σ 66 5 1) (.inl [iV v2]) (upS σ 66 5 1) ∧ (Xr [iV v2] (upS σ 66 5 1))) else (∃ v3 : Int, C MX11_leastFactor [iV x1] (upS σ 66 5 1) (.inl [iV v3]) (upS σ 66 5 1) ∧ (Xr [iV (w32 (v3 - 1))] (upS σ 66 5 1))))) else (∃ v4 : Int, C MX11_within [lV x2, lV 0, lV 1] σ (.inl [iV v4]) σ ∧ (if v4 = 0 then (if (0 : Int) < ((upS σ 66 5 1) 66 5) then (Xr [iV 0] (upS σ 66 5 1)) else (if x2 = 0 then (∃ v5 : Int, C MX11_leastFactor [iV x1] (upS σ 66 5 1) (.inl [iV v5]) (upS σ 66 5 1) ∧ (Xr [iV v5] (upS σ 66 5 1))) else (∃ v6 : Int, C MX11_leastFactor [iV x1] (upS σ 66 5 1) (.inl [iV v6]) (upS σ 66 5 1) ∧ (Xr [iV (w32 (v6 - 1))] (upS σ 66 5 1))))) else (if (0 : Int) < ((upS σ 66 5 0) 66 5) then (Xr [iV 0] (upS σ 66 5 0)) else (if x2 = 0 then (∃ v7 : Int, C MX11_leastFactor [iV x1] (upS σ 66 5 0) (.inl [iV v7]) (upS σ 66 5 0) ∧ (Xr [iV v7] (upS σ 66 5 0))) else (∃ v8 : Int, C MX11_leastFactor [iV x1] (upS σ 66 5 0) (.inl [iV v8]) (upS σ 66 5 0) ∧ (Xr [iV (w32 (v8 - 1))] (upS σ 66 5 0))))))))) : X 0 [rV 20 66, iV x1, iV x2] [] σ := by
  refine st_aload_n (pc := 0) hC dX11_trial_0 rfl (by decide) (by decide) ?_
  refine st_iload_n (pc := 1) hC dX11_trial_1 rfl ?_
  obtain ⟨v1, hq, h⟩ := h
  refine st_invS (As := [iV x1]) (v := [iV v1]) (S := [rV 20 66]) (pc := 2) hC dX11_trial_2 cl_11_350 rfl rfl (Nat.le_of_ble_eq_true rfl) hq ?_
  refine st_if_eq (tg := 22) (pc := 5) hC dX11_trial_5 (by decide) (ite_im h (fun h => ?_) (fun h => ?_))
  · refine st_iconst (pc := 22) hC dX11_trial_22 (by decide) ?_
    refine st_putfI (ci := 10) (f := 5) (pc := 23) hC dX11_trial_23 fl_11_64 rfl rfl ?_
    refine st_aload_n (pc := 26) hC dX11_trial_26 rfl (by decide) (by decide) ?_
    refine st_getf (ci := 10) (f := 5) (v := iV ((upS σ 66 5 1) 66 5)) (pc := 27) hC dX11_trial_27 fl_11_64 rfl rfl ?_
    refine st_if_le (tg := 35) (pc := 30) hC dX11_trial_30 (by decide) (ite_im h (fun h => ?_) (fun h => ?_))
    · refine st_iconst (pc := 33) hC dX11_trial_33 (by decide) ?_
      exact st_ireturn (pc := 34) hC dX11_trial_34 trivial h
    · refine st_iload_n (pc := 35) hC dX11_trial_35 rfl ?_
      refine st_if_ne (tg := 46) (pc := 36) hC dX11_trial_36 (by decide) (ite_im h (fun h => ?_) (fun h => ?_))
      · refine st_iload_n (pc := 39) hC dX11_trial_39 rfl ?_
        obtain ⟨v2, hq, h⟩ := h
        refine st_invS (As := [iV x1]) (v := [iV v2]) (S := []) (pc := 40) hC dX11_trial_40 cl_11_353 rfl rfl (Nat.le_of_ble_eq_true rfl) hq ?_
        refine st_goto (tg := 52) (pc := 43) hC dX11_trial_43 (by decide) ?_
        exact st_ireturn (pc := 52) hC dX11_trial_52 trivial h
      · refine st_iload_n (pc := 46) hC dX11_trial_46 rfl ?_
        obtain ⟨v3, hq, h⟩ := h
        refine st_invS (As := [iV x1]) (v := [iV v3]) (S := []) (pc := 47) hC dX11_trial_47 cl_11_353 rfl rfl (Nat.le_of_ble_eq_true rfl) hq ?_
        refine st_iconst (pc := 50) hC dX11_trial_50 (by decide) ?_
        refine st_isub (pc := 51) hC dX11_trial_51 ?_
        exact st_ireturn (pc := 52) hC dX11_trial_52 trivial h
  · refine st_iload_n (pc := 8) hC dX11_trial_8 rfl ?_
    refine st_i2l (pc := 9) hC dX11_trial_9 ?_
    refine st_lconst0 (pc := 10) hC dX11_trial_10 ?_
    refine st_lconst1 (pc := 11) hC dX11_trial_11 ?_
    obtain ⟨v4, hq, h⟩ := h
    refine st_invS (As := [lV x2, lV 0, lV 1]) (v := [iV v4]) (S := [rV 20 66]) (pc := 12) hC dX11_trial_12 cl_11_133 rfl rfl (Nat.le_of_ble_eq_true rfl) hq ?_
    refine st_if_eq (tg := 22) (pc := 15) hC dX11_trial_15 (by decide) (ite_im h (fun h => ?_) (fun h => ?_))
    · refine st_iconst (pc := 22) hC dX11_trial_22 (by decide) ?_
      refine st_putfI (ci := 10) (f := 5) (pc := 23) hC dX11_trial_23 fl_11_64 rfl rfl ?_
      refine st_aload_n (pc := 26) hC dX11_trial_26 rfl (by decide) (by decide) ?_
      refine st_getf (ci := 10) (f := 5) (v := iV ((upS σ 66 5 1) 66 5)) (pc := 27) hC dX11_trial_27 fl_11_64 rfl rfl ?_
      refine st_if_le (tg := 35) (pc := 30) hC dX11_trial_30 (by decide) (ite_im h (fun h => ?_) (fun h => ?_))
      · refine st_iconst (pc := 33) hC dX11_trial_33 (by decide) ?_
        exact st_ireturn (pc := 34) hC dX11_trial_34 trivial h
      · refine st_iload_n (pc := 35) hC dX11_trial_35 rfl ?_
        refine st_if_ne (tg := 46) (pc := 36) hC dX11_trial_36 (by decide) (ite_im h (fun h => ?_) (fun h => ?_))
        · refine st_iload_n (pc := 39) hC dX11_trial_39 rfl ?_
          obtain ⟨v5, hq, h⟩ := h
          refine st_invS (As := [iV x1]) (v := [iV v5]) (S := []) (pc := 40) hC dX11_trial_40 cl_11_353 rfl rfl (Nat.le_of_ble_eq_true rfl) hq ?_
          refine st_goto (tg := 52) (pc := 43) hC dX11_trial_43 (by decide) ?_
          exact st_ireturn (pc := 52) hC dX11_trial_52 trivial h
        · refine st_iload_n (pc := 46) hC dX11_trial_46 rfl ?_
          obtain ⟨v6, hq, h⟩ := h
          refine st_invS (As := [iV x1]) (v := [iV v6]) (S := []) (pc := 47) hC dX11_trial_47 cl_11_353 rfl rfl (Nat.le_of_ble_eq_true rfl) hq ?_
          refine st_iconst (pc := 50) hC dX11_trial_50 (by decide) ?_
          refine st_isub (pc := 51) hC dX11_trial_51 ?_
          exact st_ireturn (pc := 52) hC dX11_trial_52 trivial h
    · refine st_iconst (pc := 18) hC dX11_trial_18 (by decide) ?_
      refine st_goto (tg := 23) (pc := 19) hC dX11_trial_19 (by decide) ?_
      refine st_putfI (ci := 10) (f := 5) (pc := 23) hC dX11_trial_23 fl_11_64 rfl rfl ?_
      refine st_aload_n (pc := 26) hC dX11_trial_26 rfl (by decide) (by decide) ?_
      refine st_getf (ci := 10) (f := 5) (v := iV ((upS σ 66 5 0) 66 5)) (pc := 27) hC dX11_trial_27 fl_11_64 rfl rfl ?_
      refine st_if_le (tg := 35) (pc := 30) hC dX11_trial_30 (by decide) (ite_im h (fun h => ?_) (fun h => ?_))
      · refine st_iconst (pc := 33) hC dX11_trial_33 (by decide) ?_
        exact st_ireturn (pc := 34) hC dX11_trial_34 trivial h
      · refine st_iload_n (pc := 35) hC dX11_trial_35 rfl ?_
        refine st_if_ne (tg := 46) (pc := 36) hC dX11_trial_36 (by decide) (ite_im h (fun h => ?_) (fun h => ?_))
        · refine st_iload_n (pc := 39) hC dX11_trial_39 rfl ?_
          obtain ⟨v7, hq, h⟩ := h
          refine st_invS (As := [iV x1]) (v := [iV v7]) (S := []) (pc := 40) hC dX11_trial_40 cl_11_353 rfl rfl (Nat.le_of_ble_eq_true rfl) hq ?_
          refine st_goto (tg := 52) (pc := 43) hC dX11_trial_43 (by decide) ?_
          exact st_ireturn (pc := 52) hC dX11_trial_52 trivial h
        · refine st_iload_n (pc := 46) hC dX11_trial_46 rfl ?_
          obtain ⟨v8, hq, h⟩ := h
          refine st_invS (As := [iV x1]) (v := [iV v8]) (S := []) (pc := 47) hC dX11_trial_47 cl_11_353 rfl rfl (Nat.le_of_ble_eq_true rfl) hq ?_
          refine st_iconst (pc := 50) hC dX11_trial_50 (by decide) ?_
          refine st_isub (pc := 51) hC dX11_trial_51 ?_
          exact st_ireturn (pc := 52) hC dX11_trial_52 trivial h
theorem bX11_squares_0 {C : Nat → List Vv → Sg → Rs → Sg → Prop} {X : Nat → List Vv → List Vv → Sg → Prop} {Xr : List Vv → Sg → Prop} {Xt : Nat → Sg → Prop} (hC : Clo C 11 cX11_squares (some .int) X Xr Xt) {x1 x2 : Int} {σ : Sg} (h : ∃ v1 : Int, C MX11_within [lV x1, lV 3, lV 1000000] σ (.inl [iV v1]) σ ∧ (if v1 = 0 then (if (0 : Int) < ((upS σ 66 5 1) 66 5) then (Xr [iV 0] (upS σ 66 5 1)) else (X 57 [rV 20 66, iV x1, iV x2, iV 1, iV 1, iV 1] [] (upS σ 66 5 1))) else (if (x1.tmod 2) = 1 then (∃ v2 : Int, C MX11_within [lV x2, lV 0, lV 1] σ (.inl [iV v2]) σ ∧ (if v2 = 0 then (if (0 : Int) < ((upS σ 66 5 1) 66 5) then (Xr [iV 0] (upS σ 66 5 1)) else (X 57 [rV 20 66, iV x1, iV x2, iV 1, iV 1, iV 1] [] (upS σ 66 5 1))) else (if (0 : Int) < ((upS σ 66 5 0) 66 5) then (Xr [iV 0] (upS σ 66 5 0)) else (X 57 [rV 20 66, iV x1, iV x2, iV 1, iV 1, iV 1] [] (upS σ 66 5 0))))) else (if (0 : Int) < ((upS σ 66 5 1) 66 5) then (Xr [iV 0] (upS σ 66 5 1)) else (X 57 [rV 20 66, iV x1, iV x2, iV 1, iV 1, iV 1] [] (upS σ 66 5 1)))))) : X 0 [rV 20 66, iV x1, iV x2, uV, uV, uV] [] σ := by
  refine st_aload_n (pc := 0) hC dX11_squares_0 rfl (by decide) (by decide) ?_
  refine st_iload_n (pc := 1) hC dX11_squares_1 rfl ?_
  refine st_i2l (pc := 2) hC dX11_squares_2 ?_
  refine st_ldc2 (pc := 3) hC dX11_squares_3 rfl ?_
  refine st_ldc2 (pc := 6) hC dX11_squares_6 rfl ?_
  obtain ⟨v1, hq, h⟩ := h
  refine st_invS (As := [lV x1, lV 3, lV 1000000]) (v := [iV v1]) (S := [rV 20 66]) (pc := 9) hC dX11_squares_9 cl_11_133 rfl rfl (Nat.le_of_ble_eq_true rfl) hq ?_
  refine st_if_eq (tg := 36) (pc := 12) hC dX11_squares_12 (by decide) (ite_im h (fun h => ?_) (fun h => ?_))
  · refine st_iconst (pc := 36) hC dX11_squares_36 (by decide) ?_
    refine st_putfI (ci := 10) (f := 5) (pc := 37) hC dX11_squares_37 fl_11_64 rfl rfl ?_
    refine st_aload_n (pc := 40) hC dX11_squares_40 rfl (by decide) (by decide) ?_
    refine st_getf (ci := 10) (f := 5) (v := iV ((upS σ 66 5 1) 66 5)) (pc := 41) hC dX11_squares_41 fl_11_64 rfl rfl ?_
    refine st_if_le (tg := 49) (pc := 44) hC dX11_squares_44 (by decide) (ite_im h (fun h => ?_) (fun h => ?_))
    · refine st_iconst (pc := 47) hC dX11_squares_47 (by decide) ?_
      exact st_ireturn (pc := 48) hC dX11_squares_48 trivial h
    · refine st_iconst (pc := 49) hC dX11_squares_49 (by decide) ?_
      refine st_istore_n (L2 := [rV 20 66, iV x1, iV x2, iV 1, uV, uV]) (pc := 50) hC dX11_squares_50 (Nat.le_of_ble_eq_true rfl) rfl ?_
      refine st_iconst (pc := 51) hC dX11_squares_51 (by decide) ?_
      refine st_istore (L2 := [rV 20 66, iV x1, iV x2, iV 1, iV 1, uV]) (pc := 52) hC dX11_squares_52 (Nat.le_of_ble_eq_true rfl) rfl ?_
      refine st_iconst (pc := 54) hC dX11_squares_54 (by decide) ?_
      refine st_istore (L2 := [rV 20 66, iV x1, iV x2, iV 1, iV 1, iV 1]) (pc := 55) hC dX11_squares_55 (Nat.le_of_ble_eq_true rfl) rfl ?_
      exact h
  · refine st_iload_n (pc := 15) hC dX11_squares_15 rfl ?_
    refine st_iconst (pc := 16) hC dX11_squares_16 (by decide) ?_
    refine st_irem (pc := 17) hC dX11_squares_17 (by decide) ?_
    refine st_iconst (pc := 18) hC dX11_squares_18 (by decide) ?_
    refine st_icmp_ne (tg := 36) (pc := 19) hC dX11_squares_19 (by decide) (ite_im h (fun h => ?_) (fun h => ?_))
    · refine st_iload_n (pc := 22) hC dX11_squares_22 rfl ?_
      refine st_i2l (pc := 23) hC dX11_squares_23 ?_
      refine st_lconst0 (pc := 24) hC dX11_squares_24 ?_
      refine st_lconst1 (pc := 25) hC dX11_squares_25 ?_
      obtain ⟨v2, hq, h⟩ := h
      refine st_invS (As := [lV x2, lV 0, lV 1]) (v := [iV v2]) (S := [rV 20 66]) (pc := 26) hC dX11_squares_26 cl_11_133 rfl rfl (Nat.le_of_ble_eq_true rfl) hq ?_
      refine st_if_eq (tg := 36) (pc := 29) hC dX11_squares_29 (by decide) (ite_im h (fun h => ?_) (fun h => ?_))
      · refine st_iconst (pc := 36) hC dX11_squares_36 (by decide) ?_
        refine st_putfI (ci := 10) (f := 5) (pc := 37) hC dX11_squares_37 fl_11_64 rfl rfl ?_
        refine st_aload_n (pc := 40) hC dX11_squares_40 rfl (by decide) (by decide) ?_
        refine st_getf (ci := 10) (f := 5) (v := iV ((upS σ 66 5 1) 66 5)) (pc := 41) hC dX11_squares_41 fl_11_64 rfl rfl ?_
        refine st_if_le (tg := 49) (pc := 44) hC dX11_squares_44 (by decide) (ite_im h (fun h => ?_) (fun h => ?_))
        · refine st_iconst (pc := 47) hC dX11_squares_47 (by decide) ?_
          exact st_ireturn (pc := 48) hC dX11_squares_48 trivial h
        · refine st_iconst (pc := 49) hC dX11_squares_49 (by decide) ?_
          refine st_istore_n (L2 := [rV 20 66, iV x1, iV x2, iV 1, uV, uV]) (pc := 50) hC dX11_squares_50 (Nat.le_of_ble_eq_true rfl) rfl ?_
          refine st_iconst (pc := 51) hC dX11_squares_51 (by decide) ?_
          refine st_istore (L2 := [rV 20 66, iV x1, iV x2, iV 1, iV 1, uV]) (pc := 52) hC dX11_squares_52 (Nat.le_of_ble_eq_true rfl) rfl ?_
          refine st_iconst (pc := 54) hC dX11_squares_54 (by decide) ?_
          refine st_istore (L2 := [rV 20 66, iV x1, iV x2, iV 1, iV 1, iV 1]) (pc := 55) hC dX11_squares_55 (Nat.le_of_ble_eq_true rfl) rfl ?_
          exact h
      · refine st_iconst (pc := 32) hC dX11_squares_32 (by decide) ?_
        refine st_goto (tg := 37) (pc := 33) hC dX11_squares_33 (by decide) ?_
        refine st_putfI (ci := 10) (f := 5) (pc := 37) hC dX11_squares_37 fl_11_64 rfl rfl ?_
        refine st_aload_n (pc := 40) hC dX11_squares_40 rfl (by decide) (by decide) ?_
        refine st_getf (ci := 10) (f := 5) (v := iV ((upS σ 66 5 0) 66 5)) (pc := 41) hC dX11_squares_41 fl_11_64 rfl rfl ?_
        refine st_if_le (tg := 49) (pc := 44) hC dX11_squares_44 (by decide) (ite_im h (fun h => ?_) (fun h => ?_))
        · refine st_iconst (pc := 47) hC dX11_squares_47 (by decide) ?_
          exact st_ireturn (pc := 48) hC dX11_squares_48 trivial h
        · refine st_iconst (pc := 49) hC dX11_squares_49 (by decide) ?_
          refine st_istore_n (L2 := [rV 20 66, iV x1, iV x2, iV 1, uV, uV]) (pc := 50) hC dX11_squares_50 (Nat.le_of_ble_eq_true rfl) rfl ?_
          refine st_iconst (pc := 51) hC dX11_squares_51 (by decide) ?_
          refine st_istore (L2 := [rV 20 66, iV x1, iV x2, iV 1, iV 1, uV]) (pc := 52) hC dX11_squares_52 (Nat.le_of_ble_eq_true rfl) rfl ?_
          refine st_iconst (pc := 54) hC dX11_squares_54 (by decide) ?_
          refine st_istore (L2 := [rV 20 66, iV x1, iV x2, iV 1, iV 1, iV 1]) (pc := 55) hC dX11_squares_55 (Nat.le_of_ble_eq_true rfl) rfl ?_
          exact h
    · refine st_iconst (pc := 36) hC dX11_squares_36 (by decide) ?_
      refine st_putfI (ci := 10) (f := 5) (pc := 37) hC dX11_squares_37 fl_11_64 rfl rfl ?_
      refine st_aload_n (pc := 40) hC dX11_squares_40 rfl (by decide) (by decide) ?_
      refine st_getf (ci := 10) (f := 5) (v := iV ((upS σ 66 5 1) 66 5)) (pc := 41) hC dX11_squares_41 fl_11_64 rfl rfl ?_
      refine st_if_le (tg := 49) (pc := 44) hC dX11_squares_44 (by decide) (ite_im h (fun h => ?_) (fun h => ?_))
      · refine st_iconst (pc := 47) hC dX11_squares_47 (by decide) ?_
        exact st_ireturn (pc := 48) hC dX11_squares_48 trivial h
      · refine st_iconst (pc := 49) hC dX11_squares_49 (by decide) ?_
        refine st_istore_n (L2 := [rV 20 66, iV x1, iV x2, iV 1, uV, uV]) (pc := 50) hC dX11_squares_50 (Nat.le_of_ble_eq_true rfl) rfl ?_
        refine st_iconst (pc := 51) hC dX11_squares_51 (by decide) ?_
        refine st_istore (L2 := [rV 20 66, iV x1, iV x2, iV 1, iV 1, uV]) (pc := 52) hC dX11_squares_52 (Nat.le_of_ble_eq_true rfl) rfl ?_
        refine st_iconst (pc := 54) hC dX11_squares_54 (by decide) ?_
        refine st_istore (L2 := [rV 20 66, iV x1, iV x2, iV 1, iV 1, iV 1]) (pc := 55) hC dX11_squares_55 (Nat.le_of_ble_eq_true rfl) rfl ?_
        exact h
theorem bX11_squares_57 {C : Nat → List Vv → Sg → Rs → Sg → Prop} {X : Nat → List Vv → List Vv → Sg → Prop} {Xr : List Vv → Sg → Prop} {Xt : Nat → Sg → Prop} (hC : Clo C 11 cX11_squares (some .int) X Xr Xt) {x1 x2 x3 x4 x5 : Int} {σ : Sg} (h : if x1 < (w32 (x5 * x5)) then (if (w32 (x4 * x4)) = x1 then (if x2 = 0 then (Xr [iV x3] σ) else (x3 ≠ 0 ∧ (Xr [iV (w32 ((w32 ((w32 ((w32 (x3 + (w32 (x1.tdiv x3)))).tdiv 2)) - x4)) + 1))] σ))) else (if x2 = 0 then (Xr [iV x3] σ) else (x3 ≠ 0 ∧ (Xr [iV (w32 ((w32 ((w32 ((w32 (x3 + (w32 (x1.tdiv x3)))).tdiv 2)) - (w32 (x4 + 1)))) + 1))] σ)))) else (x5 ≠ 0 ∧ (if (x1.tmod x5) = 0 then (X 57 [rV 20 66, iV x1, iV x2, iV x5, iV x5, iV (w32 (x5 + 1))] [] σ) else (X 57 [rV 20 66, iV x1, iV x2, iV x3, iV x5, iV (w32 (x5 + 1))] [] σ)))) : X 57 [rV 20 66, iV x1, iV x2, iV x3, iV x4, iV x5] [] σ := by
  refine st_iload (pc := 57) hC dX11_squares_57 rfl ?_
  refine st_iload (pc := 59) hC dX11_squares_59 rfl ?_
  refine st_imul (pc := 61) hC dX11_squares_61 ?_
  refine st_iload_n (pc := 62) hC dX11_squares_62 rfl ?_
  refine st_icmp_gt (tg := 86) (pc := 63) hC dX11_squares_63 (by decide) (ite_im h (fun h => ?_) (fun h => ?_))
  · refine st_iload (pc := 86) hC dX11_squares_86 rfl ?_
    refine st_iload (pc := 88) hC dX11_squares_88 rfl ?_
    refine st_imul (pc := 90) hC dX11_squares_90 ?_
    refine st_iload_n (pc := 91) hC dX11_squares_91 rfl ?_
    refine st_icmp_ne (tg := 100) (pc := 92) hC dX11_squares_92 (by decide) (ite_im h (fun h => ?_) (fun h => ?_))
    · refine st_iload (pc := 95) hC dX11_squares_95 rfl ?_
      refine st_goto (tg := 104) (pc := 97) hC dX11_squares_97 (by decide) ?_
      refine st_istore (L2 := [rV 20 66, iV x1, iV x2, iV x3, iV x4, iV x4]) (pc := 104) hC dX11_squares_104 (Nat.le_of_ble_eq_true rfl) rfl ?_
      refine st_iload_n (pc := 106) hC dX11_squares_106 rfl ?_
      refine st_if_ne (tg := 114) (pc := 107) hC dX11_squares_107 (by decide) (ite_im h (fun h => ?_) (fun h => ?_))
      · refine st_iload_n (pc := 110) hC dX11_squares_110 rfl ?_
        refine st_goto (tg := 126) (pc := 111) hC dX11_squares_111 (by decide) ?_
        exact st_ireturn (pc := 126) hC dX11_squares_126 trivial h
      · refine st_iload_n (pc := 114) hC dX11_squares_114 rfl ?_
        refine st_iload_n (pc := 115) hC dX11_squares_115 rfl ?_
        refine st_iload_n (pc := 116) hC dX11_squares_116 rfl ?_
        obtain ⟨h0, h⟩ := h
        refine st_idiv (pc := 117) hC dX11_squares_117 h0 ?_
        refine st_iadd (pc := 118) hC dX11_squares_118 ?_
        refine st_iconst (pc := 119) hC dX11_squares_119 (by decide) ?_
        refine st_idiv (pc := 120) hC dX11_squares_120 (by decide) ?_
        refine st_iload (pc := 121) hC dX11_squares_121 rfl ?_
        refine st_isub (pc := 123) hC dX11_squares_123 ?_
        refine st_iconst (pc := 124) hC dX11_squares_124 (by decide) ?_
        refine st_iadd (pc := 125) hC dX11_squares_125 ?_
        exact st_ireturn (pc := 126) hC dX11_squares_126 trivial h
    · refine st_iload (pc := 100) hC dX11_squares_100 rfl ?_
      refine st_iconst (pc := 102) hC dX11_squares_102 (by decide) ?_
      refine st_iadd (pc := 103) hC dX11_squares_103 ?_
      refine st_istore (L2 := [rV 20 66, iV x1, iV x2, iV x3, iV x4, iV (w32 (x4 + 1))]) (pc := 104) hC dX11_squares_104 (Nat.le_of_ble_eq_true rfl) rfl ?_
      refine st_iload_n (pc := 106) hC dX11_squares_106 rfl ?_
      refine st_if_ne (tg := 114) (pc := 107) hC dX11_squares_107 (by decide) (ite_im h (fun h => ?_) (fun h => ?_))
      · refine st_iload_n (pc := 110) hC dX11_squares_110 rfl ?_
        refine st_goto (tg := 126) (pc := 111) hC dX11_squares_111 (by decide) ?_
        exact st_ireturn (pc := 126) hC dX11_squares_126 trivial h
      · refine st_iload_n (pc := 114) hC dX11_squares_114 rfl ?_
        refine st_iload_n (pc := 115) hC dX11_squares_115 rfl ?_
        refine st_iload_n (pc := 116) hC dX11_squares_116 rfl ?_
        obtain ⟨h0, h⟩ := h
        refine st_idiv (pc := 117) hC dX11_squares_117 h0 ?_
        refine st_iadd (pc := 118) hC dX11_squares_118 ?_
        refine st_iconst (pc := 119) hC dX11_squares_119 (by decide) ?_
        refine st_idiv (pc := 120) hC dX11_squares_120 (by decide) ?_
        refine st_iload (pc := 121) hC dX11_squares_121 rfl ?_
        refine st_isub (pc := 123) hC dX11_squares_123 ?_
        refine st_iconst (pc := 124) hC dX11_squares_124 (by decide) ?_
        refine st_iadd (pc := 125) hC dX11_squares_125 ?_
        exact st_ireturn (pc := 126) hC dX11_squares_126 trivial h
  · refine st_iload (pc := 66) hC dX11_squares_66 rfl ?_
    refine st_istore (L2 := [rV 20 66, iV x1, iV x2, iV x3, iV x5, iV x5]) (pc := 68) hC dX11_squares_68 (Nat.le_of_ble_eq_true rfl) rfl ?_
    refine st_iload_n (pc := 70) hC dX11_squares_70 rfl ?_
    refine st_iload (pc := 71) hC dX11_squares_71 rfl ?_
    obtain ⟨h0, h⟩ := h
    refine st_irem (pc := 73) hC dX11_squares_73 h0 ?_
    refine st_if_ne (tg := 80) (pc := 74) hC dX11_squares_74 (by decide) (ite_im h (fun h => ?_) (fun h => ?_))
    · refine st_iload (pc := 77) hC dX11_squares_77 rfl ?_
      refine st_istore_n (L2 := [rV 20 66, iV x1, iV x2, iV x5, iV x5, iV x5]) (pc := 79) hC dX11_squares_79 (Nat.le_of_ble_eq_true rfl) rfl ?_
      refine st_iinc (L2 := [rV 20 66, iV x1, iV x2, iV x5, iV x5, iV (w32 (x5 + 1))]) (pc := 80) hC dX11_squares_80 rfl (Nat.le_of_ble_eq_true rfl) rfl ?_
      refine st_goto (tg := 57) (pc := 83) hC dX11_squares_83 (by decide) ?_
      exact h
    · refine st_iinc (L2 := [rV 20 66, iV x1, iV x2, iV x3, iV x5, iV (w32 (x5 + 1))]) (pc := 80) hC dX11_squares_80 rfl (Nat.le_of_ble_eq_true rfl) rfl ?_
      refine st_goto (tg := 57) (pc := 83) hC dX11_squares_83 (by decide) ?_
      exact h
theorem bX11_shared_0 {C : Nat → List Vv → Sg → Rs → Sg → Prop} {X : Nat → List Vv → List Vv → Sg → Prop} {Xr : List Vv → Sg → Prop} {Xt : Nat → Sg → Prop} (hC : Clo C 11 cX11_shared (some .long) X Xr Xt) {x0 x2 : Int} {σ : Sg} (h : X 6 [lV x0, uV, lV x2, uV, lV x0, uV, lV x2, uV, uV, uV] [] σ) : X 0 [lV x0, uV, lV x2, uV, uV, uV, uV, uV, uV, uV] [] σ := by
  refine st_lload_n (pc := 0) hC dX11_shared_0 rfl ?_
  refine st_lstore (L2 := [lV x0, uV, lV x2, uV, lV x0, uV, uV, uV, uV, uV]) (pc := 1) hC dX11_shared_1 (Nat.le_of_ble_eq_true rfl) rfl ?_
  refine st_lload_n (pc := 3) hC dX11_shared_3 rfl ?_
  refine st_lstore (L2 := [lV x0, uV, lV x2, uV, lV x0, uV, lV x2, uV, uV, uV]) (pc := 4) hC dX11_shared_4 (Nat.le_of_ble_eq_true rfl) rfl ?_
  exact h
theorem bX11_shared_6 {C : Nat → List Vv → Sg → Rs → Sg → Prop} {X : Nat → List Vv → List Vv → Sg → Prop} {Xr : List Vv → Sg → Prop} {Xt : Nat → Sg → Prop} (hC : Clo C 11 cX11_shared (some .long) X Xr Xt) {x0 x2 x4 x6 : Int} {σ : Sg} (h : if x6 = 0 then (Xr [lV x4] σ) else (x6 ≠ 0 ∧ (X 6 [lV x0, uV, lV x2, uV, lV x6, uV, lV (x4.tmod x6), uV, uV, uV] [] σ))) : X 6 [lV x0, uV, lV x2, uV, lV x4, uV, lV x6, uV, uV, uV] [] σ := by
  refine st_lload (pc := 6) hC dX11_shared_6 rfl ?_
  refine st_lconst0 (pc := 8) hC dX11_shared_8 ?_
  refine st_lcmp_eq (tg := 31) (pc := 9) hC dX11_shared_9 dX11_shared_10 (by decide) (ite_im h (fun h => ?_) (fun h => ?_))
  · refine st_lload (pc := 31) hC dX11_shared_31 rfl ?_
    exact st_lreturn (pc := 33) hC dX11_shared_33 h
  · refine st_lload (pc := 13) hC dX11_shared_13 rfl ?_
    refine st_lload (pc := 15) hC dX11_shared_15 rfl ?_
    obtain ⟨h0, h⟩ := h
    refine st_lrem (pc := 17) hC dX11_shared_17 h0 ?_
    refine st_lstore (L2 := [lV x0, uV, lV x2, uV, lV x4, uV, lV x6, uV, lV (x4.tmod x6), uV]) (pc := 18) hC dX11_shared_18 (Nat.le_of_ble_eq_true rfl) rfl ?_
    refine st_lload (pc := 20) hC dX11_shared_20 rfl ?_
    refine st_lstore (L2 := [lV x0, uV, lV x2, uV, lV x6, uV, lV x6, uV, lV (x4.tmod x6), uV]) (pc := 22) hC dX11_shared_22 (Nat.le_of_ble_eq_true rfl) rfl ?_
    refine st_lload (pc := 24) hC dX11_shared_24 rfl ?_
    refine st_lstore (L2 := [lV x0, uV, lV x2, uV, lV x6, uV, lV (x4.tmod x6), uV, lV (x4.tmod x6), uV]) (pc := 26) hC dX11_shared_26 (Nat.le_of_ble_eq_true rfl) rfl ?_
    refine st_goto (tg := 6) (pc := 28) hC dX11_shared_28 (by decide) ?_
    exact st_fg (L2 := [lV x0, uV, lV x2, uV, lV x6, uV, lV (x4.tmod x6), uV, uV, uV]) hC ⟨Or.inl rfl, Or.inl rfl, Or.inl rfl, Or.inl rfl, Or.inl rfl, Or.inl rfl, Or.inl rfl, Or.inl rfl, Or.inr rfl, Or.inl rfl, trivial⟩ h
theorem bX11_rounds_0 {C : Nat → List Vv → Sg → Rs → Sg → Prop} {X : Nat → List Vv → List Vv → Sg → Prop} {Xr : List Vv → Sg → Prop} {Xt : Nat → Sg → Prop} (hC : Clo C 11 cX11_rounds (some .int) X Xr Xt) {x1 x2 x3 : Int} {σ : Sg} (h : ∃ v1 : Int, C MX11_within [lV x1, lV 2, lV 1000000000] σ (.inl [iV v1]) σ ∧ (if v1 = 0 then (if (0 : Int) < ((upS σ 66 5 1) 66 5) then (Xr [iV 0] (upS σ 66 5 1)) else (X 67 [rV 20 66, iV x1, iV x2, iV x3, lV 2, uV, lV 2, uV, iV 1, uV, uV] [] (upS σ 66 5 1))) else (∃ v2 : Int, C MX11_within [lV x2, lV 0, lV 99] σ (.inl [iV v2]) σ ∧ (if v2 = 0 then (if (0 : Int) < ((upS σ 66 5 1) 66 5) then (Xr [iV 0] (upS σ 66 5 1)) else (X 67 [rV 20 66, iV x1, iV x2, iV x3, lV 2, uV, lV 2, uV, iV 1, uV, uV] [] (upS σ 66 5 1))) else (∃ v3 : Int, C MX11_within [lV x3, lV 0, lV 1] σ (.inl [iV v3]) σ ∧ (if v3 = 0 then (if (0 : Int) < ((upS σ 66 5 1) 66 5) then (Xr [iV 0] (upS σ 66 5 1)) else (X 67 [rV 20 66, iV x1, iV x2, iV x3, lV 2, uV, lV 2, uV, iV 1, uV, uV] [] (upS σ 66 5 1))) else (if (0 : Int) < ((upS σ 66 5 0) 66 5) then (Xr [iV 0] (upS σ 66 5 0)) else (X 67 [rV 20 66, iV x1, iV x2, iV x3, lV 2, uV, lV 2, uV, iV 1, uV, uV] [] (upS σ 66 5 0))))))))) : X 0 [rV 20 66, iV x1, iV x2, iV x3, uV, uV, uV, uV, uV, uV, uV] [] σ := by
  refine st_aload_n (pc := 0) hC dX11_rounds_0 rfl (by decide) (by decide) ?_
  refine st_iload_n (pc := 1) hC dX11_rounds_1 rfl ?_
  refine st_i2l (pc := 2) hC dX11_rounds_2 ?_
  refine st_ldc2 (pc := 3) hC dX11_rounds_3 rfl ?_
  refine st_ldc2 (pc := 6) hC dX11_rounds_6 rfl ?_
  obtain ⟨v1, hq, h⟩ := h
  refine st_invS (As := [lV x1, lV 2, lV 1000000000]) (v := [iV v1]) (S := [rV 20 66]) (pc := 9) hC dX11_rounds_9 cl_11_133 rfl rfl (Nat.le_of_ble_eq_true rfl) hq ?_
  refine st_if_eq (tg := 41) (pc := 12) hC dX11_rounds_12 (by decide) (ite_im h (fun h => ?_) (fun h => ?_))
  · refine st_iconst (pc := 41) hC dX11_rounds_41 (by decide) ?_
    refine st_putfI (ci := 10) (f := 5) (pc := 42) hC dX11_rounds_42 fl_11_64 rfl rfl ?_
    refine st_aload_n (pc := 45) hC dX11_rounds_45 rfl (by decide) (by decide) ?_
    refine st_getf (ci := 10) (f := 5) (v := iV ((upS σ 66 5 1) 66 5)) (pc := 46) hC dX11_rounds_46 fl_11_64 rfl rfl ?_
    refine st_if_le (tg := 54) (pc := 49) hC dX11_rounds_49 (by decide) (ite_im h (fun h => ?_) (fun h => ?_))
    · refine st_iconst (pc := 52) hC dX11_rounds_52 (by decide) ?_
      exact st_ireturn (pc := 53) hC dX11_rounds_53 trivial h
    · refine st_ldc2 (pc := 54) hC dX11_rounds_54 rfl ?_
      refine st_lstore (L2 := [rV 20 66, iV x1, iV x2, iV x3, lV 2, uV, uV, uV, uV, uV, uV]) (pc := 57) hC dX11_rounds_57 (Nat.le_of_ble_eq_true rfl) rfl ?_
      refine st_ldc2 (pc := 59) hC dX11_rounds_59 rfl ?_
      refine st_lstore (L2 := [rV 20 66, iV x1, iV x2, iV x3, lV 2, uV, lV 2, uV, uV, uV, uV]) (pc := 62) hC dX11_rounds_62 (Nat.le_of_ble_eq_true rfl) rfl ?_
      refine st_iconst (pc := 64) hC dX11_rounds_64 (by decide) ?_
      refine st_istore (L2 := [rV 20 66, iV x1, iV x2, iV x3, lV 2, uV, lV 2, uV, iV 1, uV, uV]) (pc := 65) hC dX11_rounds_65 (Nat.le_of_ble_eq_true rfl) rfl ?_
      exact h
  · refine st_iload_n (pc := 15) hC dX11_rounds_15 rfl ?_
    refine st_i2l (pc := 16) hC dX11_rounds_16 ?_
    refine st_lconst0 (pc := 17) hC dX11_rounds_17 ?_
    refine st_ldc2 (pc := 18) hC dX11_rounds_18 rfl ?_
    obtain ⟨v2, hq, h⟩ := h
    refine st_invS (As := [lV x2, lV 0, lV 99]) (v := [iV v2]) (S := [rV 20 66]) (pc := 21) hC dX11_rounds_21 cl_11_133 rfl rfl (Nat.le_of_ble_eq_true rfl) hq ?_
    refine st_if_eq (tg := 41) (pc := 24) hC dX11_rounds_24 (by decide) (ite_im h (fun h => ?_) (fun h => ?_))
    · refine st_iconst (pc := 41) hC dX11_rounds_41 (by decide) ?_
      refine st_putfI (ci := 10) (f := 5) (pc := 42) hC dX11_rounds_42 fl_11_64 rfl rfl ?_
      refine st_aload_n (pc := 45) hC dX11_rounds_45 rfl (by decide) (by decide) ?_
      refine st_getf (ci := 10) (f := 5) (v := iV ((upS σ 66 5 1) 66 5)) (pc := 46) hC dX11_rounds_46 fl_11_64 rfl rfl ?_
      refine st_if_le (tg := 54) (pc := 49) hC dX11_rounds_49 (by decide) (ite_im h (fun h => ?_) (fun h => ?_))
      · refine st_iconst (pc := 52) hC dX11_rounds_52 (by decide) ?_
        exact st_ireturn (pc := 53) hC dX11_rounds_53 trivial h
      · refine st_ldc2 (pc := 54) hC dX11_rounds_54 rfl ?_
        refine st_lstore (L2 := [rV 20 66, iV x1, iV x2, iV x3, lV 2, uV, uV, uV, uV, uV, uV]) (pc := 57) hC dX11_rounds_57 (Nat.le_of_ble_eq_true rfl) rfl ?_
        refine st_ldc2 (pc := 59) hC dX11_rounds_59 rfl ?_
        refine st_lstore (L2 := [rV 20 66, iV x1, iV x2, iV x3, lV 2, uV, lV 2, uV, uV, uV, uV]) (pc := 62) hC dX11_rounds_62 (Nat.le_of_ble_eq_true rfl) rfl ?_
        refine st_iconst (pc := 64) hC dX11_rounds_64 (by decide) ?_
        refine st_istore (L2 := [rV 20 66, iV x1, iV x2, iV x3, lV 2, uV, lV 2, uV, iV 1, uV, uV]) (pc := 65) hC dX11_rounds_65 (Nat.le_of_ble_eq_true rfl) rfl ?_
        exact h
    · refine st_iload_n (pc := 27) hC dX11_rounds_27 rfl ?_
      refine st_i2l (pc := 28) hC dX11_rounds_28 ?_
      refine st_lconst0 (pc := 29) hC dX11_rounds_29 ?_
      refine st_lconst1 (pc := 30) hC dX11_rounds_30 ?_
      obtain ⟨v3, hq, h⟩ := h
      refine st_invS (As := [lV x3, lV 0, lV 1]) (v := [iV v3]) (S := [rV 20 66]) (pc := 31) hC dX11_rounds_31 cl_11_133 rfl rfl (Nat.le_of_ble_eq_true rfl) hq ?_
      refine st_if_eq (tg := 41) (pc := 34) hC dX11_rounds_34 (by decide) (ite_im h (fun h => ?_) (fun h => ?_))
      · refine st_iconst (pc := 41) hC dX11_rounds_41 (by decide) ?_
        refine st_putfI (ci := 10) (f := 5) (pc := 42) hC dX11_rounds_42 fl_11_64 rfl rfl ?_
        refine st_aload_n (pc := 45) hC dX11_rounds_45 rfl (by decide) (by decide) ?_
        refine st_getf (ci := 10) (f := 5) (v := iV ((upS σ 66 5 1) 66 5)) (pc := 46) hC dX11_rounds_46 fl_11_64 rfl rfl ?_
        refine st_if_le (tg := 54) (pc := 49) hC dX11_rounds_49 (by decide) (ite_im h (fun h => ?_) (fun h => ?_))
        · refine st_iconst (pc := 52) hC dX11_rounds_52 (by decide) ?_
          exact st_ireturn (pc := 53) hC dX11_rounds_53 trivial h
        · refine st_ldc2 (pc := 54) hC dX11_rounds_54 rfl ?_
          refine st_lstore (L2 := [rV 20 66, iV x1, iV x2, iV x3, lV 2, uV, uV, uV, uV, uV, uV]) (pc := 57) hC dX11_rounds_57 (Nat.le_of_ble_eq_true rfl) rfl ?_
          refine st_ldc2 (pc := 59) hC dX11_rounds_59 rfl ?_
          refine st_lstore (L2 := [rV 20 66, iV x1, iV x2, iV x3, lV 2, uV, lV 2, uV, uV, uV, uV]) (pc := 62) hC dX11_rounds_62 (Nat.le_of_ble_eq_true rfl) rfl ?_
          refine st_iconst (pc := 64) hC dX11_rounds_64 (by decide) ?_
          refine st_istore (L2 := [rV 20 66, iV x1, iV x2, iV x3, lV 2, uV, lV 2, uV, iV 1, uV, uV]) (pc := 65) hC dX11_rounds_65 (Nat.le_of_ble_eq_true rfl) rfl ?_
          exact h
      · refine st_iconst (pc := 37) hC dX11_rounds_37 (by decide) ?_
        refine st_goto (tg := 42) (pc := 38) hC dX11_rounds_38 (by decide) ?_
        refine st_putfI (ci := 10) (f := 5) (pc := 42) hC dX11_rounds_42 fl_11_64 rfl rfl ?_
        refine st_aload_n (pc := 45) hC dX11_rounds_45 rfl (by decide) (by decide) ?_
        refine st_getf (ci := 10) (f := 5) (v := iV ((upS σ 66 5 0) 66 5)) (pc := 46) hC dX11_rounds_46 fl_11_64 rfl rfl ?_
        refine st_if_le (tg := 54) (pc := 49) hC dX11_rounds_49 (by decide) (ite_im h (fun h => ?_) (fun h => ?_))
        · refine st_iconst (pc := 52) hC dX11_rounds_52 (by decide) ?_
          exact st_ireturn (pc := 53) hC dX11_rounds_53 trivial h
        · refine st_ldc2 (pc := 54) hC dX11_rounds_54 rfl ?_
          refine st_lstore (L2 := [rV 20 66, iV x1, iV x2, iV x3, lV 2, uV, uV, uV, uV, uV, uV]) (pc := 57) hC dX11_rounds_57 (Nat.le_of_ble_eq_true rfl) rfl ?_
          refine st_ldc2 (pc := 59) hC dX11_rounds_59 rfl ?_
          refine st_lstore (L2 := [rV 20 66, iV x1, iV x2, iV x3, lV 2, uV, lV 2, uV, uV, uV, uV]) (pc := 62) hC dX11_rounds_62 (Nat.le_of_ble_eq_true rfl) rfl ?_
          refine st_iconst (pc := 64) hC dX11_rounds_64 (by decide) ?_
          refine st_istore (L2 := [rV 20 66, iV x1, iV x2, iV x3, lV 2, uV, lV 2, uV, iV 1, uV, uV]) (pc := 65) hC dX11_rounds_65 (Nat.le_of_ble_eq_true rfl) rfl ?_
          exact h
theorem bX11_rounds_67 {C : Nat → List Vv → Sg → Rs → Sg → Prop} {X : Nat → List Vv → List Vv → Sg → Prop} {Xr : List Vv → Sg → Prop} {Xt : Nat → Sg → Prop} (hC : Clo C 11 cX11_rounds (some .int) X Xr Xt) {x1 x2 x3 x4 x6 x8 : Int} {σ : Sg} (h : if (2000 : Int) < x8 then (Xr [iV (-1)] σ) else (x1 ≠ 0 ∧ (x1 ≠ 0 ∧ (x1 ≠ 0 ∧ (∃ v1 : Int, C MX11_shared [lV x1, lV (absI (w64 (((w64 ((w64 (x4 * x4)) + x2)).tmod x1) - ((w64 ((w64 (((w64 ((w64 (x6 * x6)) + x2)).tmod x1) * ((w64 ((w64 (x6 * x6)) + x2)).tmod x1))) + x2)).tmod x1))))] σ (.inl [lV v1]) σ ∧ (if (1 : Int) < v1 then (if x3 = 0 then (Xr [iV (w32 v1)] σ) else (Xr [iV x8] σ)) else (X 67 [rV 20 66, iV x1, iV x2, iV x3, lV ((w64 ((w64 (x4 * x4)) + x2)).tmod x1), uV, lV ((w64 ((w64 (((w64 ((w64 (x6 * x6)) + x2)).tmod x1) * ((w64 ((w64 (x6 * x6)) + x2)).tmod x1))) + x2)).tmod x1), uV, iV (w32 (x8 + 1)), uV, uV] [] σ))))))) : X 67 [rV 20 66, iV x1, iV x2, iV x3, lV x4, uV, lV x6, uV, iV x8, uV, uV] [] σ := by
  refine st_iload (pc := 67) hC dX11_rounds_67 rfl ?_
  refine st_sipush (pc := 69) hC dX11_rounds_69 (by decide) ?_
  refine st_icmp_gt (tg := 155) (pc := 72) hC dX11_rounds_72 (by decide) (ite_im h (fun h => ?_) (fun h => ?_))
  · refine st_iconst (pc := 155) hC dX11_rounds_155 (by decide) ?_
    exact st_ireturn (pc := 156) hC dX11_rounds_156 trivial h
  · refine st_lload (pc := 75) hC dX11_rounds_75 rfl ?_
    refine st_lload (pc := 77) hC dX11_rounds_77 rfl ?_
    refine st_lmul (pc := 79) hC dX11_rounds_79 ?_
    refine st_iload_n (pc := 80) hC dX11_rounds_80 rfl ?_
    refine st_i2l (pc := 81) hC dX11_rounds_81 ?_
    refine st_ladd (pc := 82) hC dX11_rounds_82 ?_
    refine st_iload_n (pc := 83) hC dX11_rounds_83 rfl ?_
    refine st_i2l (pc := 84) hC dX11_rounds_84 ?_
    obtain ⟨h0, h⟩ := h
    refine st_lrem (pc := 85) hC dX11_rounds_85 h0 ?_
    refine st_lstore (L2 := [rV 20 66, iV x1, iV x2, iV x3, lV ((w64 ((w64 (x4 * x4)) + x2)).tmod x1), uV, lV x6, uV, iV x8, uV, uV]) (pc := 86) hC dX11_rounds_86 (Nat.le_of_ble_eq_true rfl) rfl ?_
    refine st_lload (pc := 88) hC dX11_rounds_88 rfl ?_
    refine st_lload (pc := 90) hC dX11_rounds_90 rfl ?_
    refine st_lmul (pc := 92) hC dX11_rounds_92 ?_
    refine st_iload_n (pc := 93) hC dX11_rounds_93 rfl ?_
    refine st_i2l (pc := 94) hC dX11_rounds_94 ?_
    refine st_ladd (pc := 95) hC dX11_rounds_95 ?_
    refine st_iload_n (pc := 96) hC dX11_rounds_96 rfl ?_
    refine st_i2l (pc := 97) hC dX11_rounds_97 ?_
    obtain ⟨h0, h⟩ := h
    refine st_lrem (pc := 98) hC dX11_rounds_98 h0 ?_
    refine st_lstore (L2 := [rV 20 66, iV x1, iV x2, iV x3, lV ((w64 ((w64 (x4 * x4)) + x2)).tmod x1), uV, lV ((w64 ((w64 (x6 * x6)) + x2)).tmod x1), uV, iV x8, uV, uV]) (pc := 99) hC dX11_rounds_99 (Nat.le_of_ble_eq_true rfl) rfl ?_
    refine st_lload (pc := 101) hC dX11_rounds_101 rfl ?_
    refine st_lload (pc := 103) hC dX11_rounds_103 rfl ?_
    refine st_lmul (pc := 105) hC dX11_rounds_105 ?_
    refine st_iload_n (pc := 106) hC dX11_rounds_106 rfl ?_
    refine st_i2l (pc := 107) hC dX11_rounds_107 ?_
    refine st_ladd (pc := 108) hC dX11_rounds_108 ?_
    refine st_iload_n (pc := 109) hC dX11_rounds_109 rfl ?_
    refine st_i2l (pc := 110) hC dX11_rounds_110 ?_
    obtain ⟨h0, h⟩ := h
    refine st_lrem (pc := 111) hC dX11_rounds_111 h0 ?_
    refine st_lstore (L2 := [rV 20 66, iV x1, iV x2, iV x3, lV ((w64 ((w64 (x4 * x4)) + x2)).tmod x1), uV, lV ((w64 ((w64 (((w64 ((w64 (x6 * x6)) + x2)).tmod x1) * ((w64 ((w64 (x6 * x6)) + x2)).tmod x1))) + x2)).tmod x1), uV, iV x8, uV, uV]) (pc := 112) hC dX11_rounds_112 (Nat.le_of_ble_eq_true rfl) rfl ?_
    refine st_iload_n (pc := 114) hC dX11_rounds_114 rfl ?_
    refine st_i2l (pc := 115) hC dX11_rounds_115 ?_
    refine st_lload (pc := 116) hC dX11_rounds_116 rfl ?_
    refine st_lload (pc := 118) hC dX11_rounds_118 rfl ?_
    refine st_lsub (pc := 120) hC dX11_rounds_120 ?_
    refine st_labs (pc := 121) hC dX11_rounds_121 rfl (Nat.le_of_ble_eq_true rfl) ?_
    obtain ⟨v1, hq, h⟩ := h
    refine st_invS (As := [lV x1, lV (absI (w64 (((w64 ((w64 (x4 * x4)) + x2)).tmod x1) - ((w64 ((w64 (((w64 ((w64 (x6 * x6)) + x2)).tmod x1) * ((w64 ((w64 (x6 * x6)) + x2)).tmod x1))) + x2)).tmod x1))))]) (v := [lV v1]) (S := []) (pc := 124) hC dX11_rounds_124 cl_11_360 rfl rfl (Nat.le_of_ble_eq_true rfl) hq ?_
    refine st_lstore (L2 := [rV 20 66, iV x1, iV x2, iV x3, lV ((w64 ((w64 (x4 * x4)) + x2)).tmod x1), uV, lV ((w64 ((w64 (((w64 ((w64 (x6 * x6)) + x2)).tmod x1) * ((w64 ((w64 (x6 * x6)) + x2)).tmod x1))) + x2)).tmod x1), uV, iV x8, lV v1, uV]) (pc := 127) hC dX11_rounds_127 (Nat.le_of_ble_eq_true rfl) rfl ?_
    refine st_lload (pc := 129) hC dX11_rounds_129 rfl ?_
    refine st_lconst1 (pc := 131) hC dX11_rounds_131 ?_
    refine st_lcmp_le (tg := 149) (pc := 132) hC dX11_rounds_132 dX11_rounds_133 (by decide) (ite_im h (fun h => ?_) (fun h => ?_))
    · refine st_iload_n (pc := 136) hC dX11_rounds_136 rfl ?_
      refine st_if_ne (tg := 146) (pc := 137) hC dX11_rounds_137 (by decide) (ite_im h (fun h => ?_) (fun h => ?_))
      · refine st_lload (pc := 140) hC dX11_rounds_140 rfl ?_
        refine st_l2i (pc := 142) hC dX11_rounds_142 ?_
        refine st_goto (tg := 148) (pc := 143) hC dX11_rounds_143 (by decide) ?_
        exact st_ireturn (pc := 148) hC dX11_rounds_148 trivial h
      · refine st_iload (pc := 146) hC dX11_rounds_146 rfl ?_
        exact st_ireturn (pc := 148) hC dX11_rounds_148 trivial h
    · refine st_iinc (L2 := [rV 20 66, iV x1, iV x2, iV x3, lV ((w64 ((w64 (x4 * x4)) + x2)).tmod x1), uV, lV ((w64 ((w64 (((w64 ((w64 (x6 * x6)) + x2)).tmod x1) * ((w64 ((w64 (x6 * x6)) + x2)).tmod x1))) + x2)).tmod x1), uV, iV (w32 (x8 + 1)), lV v1, uV]) (pc := 149) hC dX11_rounds_149 rfl (Nat.le_of_ble_eq_true rfl) rfl ?_
      refine st_goto (tg := 67) (pc := 152) hC dX11_rounds_152 (by decide) ?_
      exact st_fg (L2 := [rV 20 66, iV x1, iV x2, iV x3, lV ((w64 ((w64 (x4 * x4)) + x2)).tmod x1), uV, lV ((w64 ((w64 (((w64 ((w64 (x6 * x6)) + x2)).tmod x1) * ((w64 ((w64 (x6 * x6)) + x2)).tmod x1))) + x2)).tmod x1), uV, iV (w32 (x8 + 1)), uV, uV]) hC ⟨Or.inl rfl, Or.inl rfl, Or.inl rfl, Or.inl rfl, Or.inl rfl, Or.inl rfl, Or.inl rfl, Or.inl rfl, Or.inl rfl, Or.inr rfl, Or.inl rfl, trivial⟩ h
theorem bX11_factor_0 {C : Nat → List Vv → Sg → Rs → Sg → Prop} {X : Nat → List Vv → List Vv → Sg → Prop} {Xr : List Vv → Sg → Prop} {Xt : Nat → Sg → Prop} (hC : Clo C 11 cX11_factor (some .int) X Xr Xt) {x1 x2 : Int} {σ : Sg} (h : ∃ v1 : Int, C MX11_isCounted [iV x1] (upS σ 66 5 0) (.inl [iV v1]) (upS σ 66 5 0) ∧ (if v1 = 0 then (∃ v2 : Int, ∃ σ2 : Sg, C MX11_fails [rV 20 66, iV 1] (upS σ 66 5 0) (.inl [iV v2]) σ2 ∧ (Xr [iV v2] σ2)) else (X 23 [rV 20 66, iV x1, iV x2, iV x1, iV 0, uV] [] (upS σ 66 5 0)))) : X 0 [rV 20 66, iV x1, iV x2, uV, uV, uV] [] σ := by
  refine st_aload_n (pc := 0) hC dX11_factor_0 rfl (by decide) (by decide) ?_
  refine st_iconst (pc := 1) hC dX11_factor_1 (by decide) ?_
  refine st_putfI (ci := 10) (f := 5) (pc := 2) hC dX11_factor_2 fl_11_64 rfl rfl ?_
  refine st_iload_n (pc := 5) hC dX11_factor_5 rfl ?_
  obtain ⟨v1, hq, h⟩ := h
  refine st_invS (As := [iV x1]) (v := [iV v1]) (S := []) (pc := 6) hC dX11_factor_6 cl_11_350 rfl rfl (Nat.le_of_ble_eq_true rfl) hq ?_
  refine st_if_ne (tg := 18) (pc := 9) hC dX11_factor_9 (by decide) (ite_im h (fun h => ?_) (fun h => ?_))
  · refine st_aload_n (pc := 12) hC dX11_factor_12 rfl (by decide) (by decide) ?_
    refine st_iconst (pc := 13) hC dX11_factor_13 (by decide) ?_
    obtain ⟨v2, σ2, hq, h⟩ := h
    refine st_invV (As := [iV 1]) (v := [iV v2]) (S := []) (pc := 14) hC dX11_factor_14 cl_11_178 rfl rfl (Nat.le_of_ble_eq_true rfl) cr_X11_fails hq ?_
    exact st_ireturn (pc := 17) hC dX11_factor_17 trivial h
  · refine st_iload_n (pc := 18) hC dX11_factor_18 rfl ?_
    refine st_istore_n (L2 := [rV 20 66, iV x1, iV x2, iV x1, uV, uV]) (pc := 19) hC dX11_factor_19 (Nat.le_of_ble_eq_true rfl) rfl ?_
    refine st_iconst (pc := 20) hC dX11_factor_20 (by decide) ?_
    refine st_istore (L2 := [rV 20 66, iV x1, iV x2, iV x1, iV 0, uV]) (pc := 21) hC dX11_factor_21 (Nat.le_of_ble_eq_true rfl) rfl ?_
    exact h
theorem bX11_factor_23 {C : Nat → List Vv → Sg → Rs → Sg → Prop} {X : Nat → List Vv → List Vv → Sg → Prop} {Xr : List Vv → Sg → Prop} {Xt : Nat → Sg → Prop} (hC : Clo C 11 cX11_factor (some .int) X Xr Xt) {x1 x2 x3 x4 : Int} {σ : Sg} (h : if (1 : Int) < x3 then (∃ v1 : Int, C MX11_leastFactor [iV x3] σ (.inl [iV v1]) σ ∧ (if x4 = x2 then (Xr [iV v1] σ) else (v1 ≠ 0 ∧ (X 23 [rV 20 66, iV x1, iV x2, iV (w32 (x3.tdiv v1)), iV (w32 (x4 + 1)), uV] [] σ)))) else (if x2 = (-1) then (Xr [iV x4] σ) else (Xr [iV (-1)] σ))) : X 23 [rV 20 66, iV x1, iV x2, iV x3, iV x4, uV] [] σ := by
  refine st_iload_n (pc := 23) hC dX11_factor_23 rfl ?_
  refine st_iconst (pc := 24) hC dX11_factor_24 (by decide) ?_
  refine st_icmp_le (tg := 54) (pc := 25) hC dX11_factor_25 (by decide) (ite_im h (fun h => ?_) (fun h => ?_))
  · refine st_iload_n (pc := 28) hC dX11_factor_28 rfl ?_
    obtain ⟨v1, hq, h⟩ := h
    refine st_invS (As := [iV x3]) (v := [iV v1]) (S := []) (pc := 29) hC dX11_factor_29 cl_11_353 rfl rfl (Nat.le_of_ble_eq_true rfl) hq ?_
    refine st_istore (L2 := [rV 20 66, iV x1, iV x2, iV x3, iV x4, iV v1]) (pc := 32) hC dX11_factor_32 (Nat.le_of_ble_eq_true rfl) rfl ?_
    refine st_iload (pc := 34) hC dX11_factor_34 rfl ?_
    refine st_iload_n (pc := 36) hC dX11_factor_36 rfl ?_
    refine st_icmp_ne (tg := 43) (pc := 37) hC dX11_factor_37 (by decide) (ite_im h (fun h => ?_) (fun h => ?_))
    · refine st_iload (pc := 40) hC dX11_factor_40 rfl ?_
      exact st_ireturn (pc := 42) hC dX11_factor_42 trivial h
    · refine st_iinc (L2 := [rV 20 66, iV x1, iV x2, iV x3, iV (w32 (x4 + 1)), iV v1]) (pc := 43) hC dX11_factor_43 rfl (Nat.le_of_ble_eq_true rfl) rfl ?_
      refine st_iload_n (pc := 46) hC dX11_factor_46 rfl ?_
      refine st_iload (pc := 47) hC dX11_factor_47 rfl ?_
      obtain ⟨h0, h⟩ := h
      refine st_idiv (pc := 49) hC dX11_factor_49 h0 ?_
      refine st_istore_n (L2 := [rV 20 66, iV x1, iV x2, iV (w32 (x3.tdiv v1)), iV (w32 (x4 + 1)), iV v1]) (pc := 50) hC dX11_factor_50 (Nat.le_of_ble_eq_true rfl) rfl ?_
      refine st_goto (tg := 23) (pc := 51) hC dX11_factor_51 (by decide) ?_
      exact st_fg (L2 := [rV 20 66, iV x1, iV x2, iV (w32 (x3.tdiv v1)), iV (w32 (x4 + 1)), uV]) hC ⟨Or.inl rfl, Or.inl rfl, Or.inl rfl, Or.inl rfl, Or.inl rfl, Or.inr rfl, trivial⟩ h
  · refine st_iload_n (pc := 54) hC dX11_factor_54 rfl ?_
    refine st_iconst (pc := 55) hC dX11_factor_55 (by decide) ?_
    refine st_icmp_ne (tg := 64) (pc := 56) hC dX11_factor_56 (by decide) (ite_im h (fun h => ?_) (fun h => ?_))
    · refine st_iload (pc := 59) hC dX11_factor_59 rfl ?_
      refine st_goto (tg := 65) (pc := 61) hC dX11_factor_61 (by decide) ?_
      exact st_ireturn (pc := 65) hC dX11_factor_65 trivial h
    · refine st_iconst (pc := 64) hC dX11_factor_64 (by decide) ?_
      exact st_ireturn (pc := 65) hC dX11_factor_65 trivial h
theorem bX11_smooth_0 {C : Nat → List Vv → Sg → Rs → Sg → Prop} {X : Nat → List Vv → List Vv → Sg → Prop} {Xr : List Vv → Sg → Prop} {Xt : Nat → Sg → Prop} (hC : Clo C 11 cX11_smooth (some .int) X Xr Xt) {x1 x2 : Int} {σ : Sg} (h : ∃ v1 : Int, C MX11_within [lV x1, lV 1, lV 5000] σ (.inl [iV v1]) σ ∧ (if v1 = 0 then (if (0 : Int) < ((upS σ 66 5 1) 66 5) then (Xr [iV 0] (upS σ 66 5 1)) else (X 56 [rV 20 66, iV x1, iV x2, iV 0, iV 1, uV, uV] [] (upS σ 66 5 1))) else (∃ v2 : Int, C MX11_within [lV x2, lV 2, lV 97] σ (.inl [iV v2]) σ ∧ (if v2 = 0 then (if (0 : Int) < ((upS σ 66 5 1) 66 5) then (Xr [iV 0] (upS σ 66 5 1)) else (X 56 [rV 20 66, iV x1, iV x2, iV 0, iV 1, uV, uV] [] (upS σ 66 5 1))) else (∃ v3 : Int, C MX11_isPrime [iV x2] σ (.inl [iV v3]) σ ∧ (if v3 = 0 then (if (0 : Int) < ((upS σ 66 5 1) 66 5) then (Xr [iV 0] (upS σ 66 5 1)) else (X 56 [rV 20 66, iV x1, iV x2, iV 0, iV 1, uV, uV] [] (upS σ 66 5 1))) else (if (0 : Int) < ((upS σ 66 5 0) 66 5) then (Xr [iV 0] (upS σ 66 5 0)) else (X 56 [rV 20 66, iV x1, iV x2, iV 0, iV 1, uV, uV] [] (upS σ 66 5 0))))))))) : X 0 [rV 20 66, iV x1, iV x2, uV, uV, uV, uV] [] σ := by
  refine st_aload_n (pc := 0) hC dX11_smooth_0 rfl (by decide) (by decide) ?_
  refine st_iload_n (pc := 1) hC dX11_smooth_1 rfl ?_
  refine st_i2l (pc := 2) hC dX11_smooth_2 ?_
  refine st_lconst1 (pc := 3) hC dX11_smooth_3 ?_
  refine st_ldc2 (pc := 4) hC dX11_smooth_4 rfl ?_
  obtain ⟨v1, hq, h⟩ := h
  refine st_invS (As := [lV x1, lV 1, lV 5000]) (v := [iV v1]) (S := [rV 20 66]) (pc := 7) hC dX11_smooth_7 cl_11_133 rfl rfl (Nat.le_of_ble_eq_true rfl) hq ?_
  refine st_if_eq (tg := 38) (pc := 10) hC dX11_smooth_10 (by decide) (ite_im h (fun h => ?_) (fun h => ?_))
  · refine st_iconst (pc := 38) hC dX11_smooth_38 (by decide) ?_
    refine st_putfI (ci := 10) (f := 5) (pc := 39) hC dX11_smooth_39 fl_11_64 rfl rfl ?_
    refine st_aload_n (pc := 42) hC dX11_smooth_42 rfl (by decide) (by decide) ?_
    refine st_getf (ci := 10) (f := 5) (v := iV ((upS σ 66 5 1) 66 5)) (pc := 43) hC dX11_smooth_43 fl_11_64 rfl rfl ?_
    refine st_if_le (tg := 51) (pc := 46) hC dX11_smooth_46 (by decide) (ite_im h (fun h => ?_) (fun h => ?_))
    · refine st_iconst (pc := 49) hC dX11_smooth_49 (by decide) ?_
      exact st_ireturn (pc := 50) hC dX11_smooth_50 trivial h
    · refine st_iconst (pc := 51) hC dX11_smooth_51 (by decide) ?_
      refine st_istore_n (L2 := [rV 20 66, iV x1, iV x2, iV 0, uV, uV, uV]) (pc := 52) hC dX11_smooth_52 (Nat.le_of_ble_eq_true rfl) rfl ?_
      refine st_iconst (pc := 53) hC dX11_smooth_53 (by decide) ?_
      refine st_istore (L2 := [rV 20 66, iV x1, iV x2, iV 0, iV 1, uV, uV]) (pc := 54) hC dX11_smooth_54 (Nat.le_of_ble_eq_true rfl) rfl ?_
      exact h
  · refine st_iload_n (pc := 13) hC dX11_smooth_13 rfl ?_
    refine st_i2l (pc := 14) hC dX11_smooth_14 ?_
    refine st_ldc2 (pc := 15) hC dX11_smooth_15 rfl ?_
    refine st_ldc2 (pc := 18) hC dX11_smooth_18 rfl ?_
    obtain ⟨v2, hq, h⟩ := h
    refine st_invS (As := [lV x2, lV 2, lV 97]) (v := [iV v2]) (S := [rV 20 66]) (pc := 21) hC dX11_smooth_21 cl_11_133 rfl rfl (Nat.le_of_ble_eq_true rfl) hq ?_
    refine st_if_eq (tg := 38) (pc := 24) hC dX11_smooth_24 (by decide) (ite_im h (fun h => ?_) (fun h => ?_))
    · refine st_iconst (pc := 38) hC dX11_smooth_38 (by decide) ?_
      refine st_putfI (ci := 10) (f := 5) (pc := 39) hC dX11_smooth_39 fl_11_64 rfl rfl ?_
      refine st_aload_n (pc := 42) hC dX11_smooth_42 rfl (by decide) (by decide) ?_
      refine st_getf (ci := 10) (f := 5) (v := iV ((upS σ 66 5 1) 66 5)) (pc := 43) hC dX11_smooth_43 fl_11_64 rfl rfl ?_
      refine st_if_le (tg := 51) (pc := 46) hC dX11_smooth_46 (by decide) (ite_im h (fun h => ?_) (fun h => ?_))
      · refine st_iconst (pc := 49) hC dX11_smooth_49 (by decide) ?_
        exact st_ireturn (pc := 50) hC dX11_smooth_50 trivial h
      · refine st_iconst (pc := 51) hC dX11_smooth_51 (by decide) ?_
        refine st_istore_n (L2 := [rV 20 66, iV x1, iV x2, iV 0, uV, uV, uV]) (pc := 52) hC dX11_smooth_52 (Nat.le_of_ble_eq_true rfl) rfl ?_
        refine st_iconst (pc := 53) hC dX11_smooth_53 (by decide) ?_
        refine st_istore (L2 := [rV 20 66, iV x1, iV x2, iV 0, iV 1, uV, uV]) (pc := 54) hC dX11_smooth_54 (Nat.le_of_ble_eq_true rfl) rfl ?_
        exact h
    · refine st_iload_n (pc := 27) hC dX11_smooth_27 rfl ?_
      obtain ⟨v3, hq, h⟩ := h
      refine st_invS (As := [iV x2]) (v := [iV v3]) (S := [rV 20 66]) (pc := 28) hC dX11_smooth_28 cl_11_137 rfl rfl (Nat.le_of_ble_eq_true rfl) hq ?_
      refine st_if_eq (tg := 38) (pc := 31) hC dX11_smooth_31 (by decide) (ite_im h (fun h => ?_) (fun h => ?_))
      · refine st_iconst (pc := 38) hC dX11_smooth_38 (by decide) ?_
        refine st_putfI (ci := 10) (f := 5) (pc := 39) hC dX11_smooth_39 fl_11_64 rfl rfl ?_
        refine st_aload_n (pc := 42) hC dX11_smooth_42 rfl (by decide) (by decide) ?_
        refine st_getf (ci := 10) (f := 5) (v := iV ((upS σ 66 5 1) 66 5)) (pc := 43) hC dX11_smooth_43 fl_11_64 rfl rfl ?_
        refine st_if_le (tg := 51) (pc := 46) hC dX11_smooth_46 (by decide) (ite_im h (fun h => ?_) (fun h => ?_))
        · refine st_iconst (pc := 49) hC dX11_smooth_49 (by decide) ?_
          exact st_ireturn (pc := 50) hC dX11_smooth_50 trivial h
        · refine st_iconst (pc := 51) hC dX11_smooth_51 (by decide) ?_
          refine st_istore_n (L2 := [rV 20 66, iV x1, iV x2, iV 0, uV, uV, uV]) (pc := 52) hC dX11_smooth_52 (Nat.le_of_ble_eq_true rfl) rfl ?_
          refine st_iconst (pc := 53) hC dX11_smooth_53 (by decide) ?_
          refine st_istore (L2 := [rV 20 66, iV x1, iV x2, iV 0, iV 1, uV, uV]) (pc := 54) hC dX11_smooth_54 (Nat.le_of_ble_eq_true rfl) rfl ?_
          exact h
      · refine st_iconst (pc := 34) hC dX11_smooth_34 (by decide) ?_
        refine st_goto (tg := 39) (pc := 35) hC dX11_smooth_35 (by decide) ?_
        refine st_putfI (ci := 10) (f := 5) (pc := 39) hC dX11_smooth_39 fl_11_64 rfl rfl ?_
        refine st_aload_n (pc := 42) hC dX11_smooth_42 rfl (by decide) (by decide) ?_
        refine st_getf (ci := 10) (f := 5) (v := iV ((upS σ 66 5 0) 66 5)) (pc := 43) hC dX11_smooth_43 fl_11_64 rfl rfl ?_
        refine st_if_le (tg := 51) (pc := 46) hC dX11_smooth_46 (by decide) (ite_im h (fun h => ?_) (fun h => ?_))
        · refine st_iconst (pc := 49) hC dX11_smooth_49 (by decide) ?_
          exact st_ireturn (pc := 50) hC dX11_smooth_50 trivial h
        · refine st_iconst (pc := 51) hC dX11_smooth_51 (by decide) ?_
          refine st_istore_n (L2 := [rV 20 66, iV x1, iV x2, iV 0, uV, uV, uV]) (pc := 52) hC dX11_smooth_52 (Nat.le_of_ble_eq_true rfl) rfl ?_
          refine st_iconst (pc := 53) hC dX11_smooth_53 (by decide) ?_
          refine st_istore (L2 := [rV 20 66, iV x1, iV x2, iV 0, iV 1, uV, uV]) (pc := 54) hC dX11_smooth_54 (Nat.le_of_ble_eq_true rfl) rfl ?_
          exact h
theorem bX11_smooth_56 {C : Nat → List Vv → Sg → Rs → Sg → Prop} {X : Nat → List Vv → List Vv → Sg → Prop} {Xr : List Vv → Sg → Prop} {Xt : Nat → Sg → Prop} (hC : Clo C 11 cX11_smooth (some .int) X Xr Xt) {x1 x2 x3 x4 : Int} {σ : Sg} (h : if x1 < x4 then (Xr [iV x3] σ) else (X 69 [rV 20 66, iV x1, iV x2, iV x3, iV x4, iV x4, iV 2] [] σ)) : X 56 [rV 20 66, iV x1, iV x2, iV x3, iV x4, uV, uV] [] σ := by
  refine st_iload (pc := 56) hC dX11_smooth_56 rfl ?_
  refine st_iload_n (pc := 58) hC dX11_smooth_58 rfl ?_
  refine st_icmp_gt (tg := 119) (pc := 59) hC dX11_smooth_59 (by decide) (ite_im h (fun h => ?_) (fun h => ?_))
  · refine st_iload_n (pc := 119) hC dX11_smooth_119 rfl ?_
    exact st_ireturn (pc := 120) hC dX11_smooth_120 trivial h
  · refine st_iload (pc := 62) hC dX11_smooth_62 rfl ?_
    refine st_istore (L2 := [rV 20 66, iV x1, iV x2, iV x3, iV x4, iV x4, uV]) (pc := 64) hC dX11_smooth_64 (Nat.le_of_ble_eq_true rfl) rfl ?_
    refine st_iconst (pc := 66) hC dX11_smooth_66 (by decide) ?_
    refine st_istore (L2 := [rV 20 66, iV x1, iV x2, iV x3, iV x4, iV x4, iV 2]) (pc := 67) hC dX11_smooth_67 (Nat.le_of_ble_eq_true rfl) rfl ?_
    exact h
theorem bX11_smooth_69 {C : Nat → List Vv → Sg → Rs → Sg → Prop} {X : Nat → List Vv → List Vv → Sg → Prop} {Xr : List Vv → Sg → Prop} {Xt : Nat → Sg → Prop} (hC : Clo C 11 cX11_smooth (some .int) X Xr Xt) {x1 x2 x3 x4 x5 x6 : Int} {σ : Sg} (h : if x2 < x6 then (if x5 = 1 then (X 56 [rV 20 66, iV x1, iV x2, iV (w32 (x3 + 1)), iV (w32 (x4 + 1)), uV, uV] [] σ) else (X 56 [rV 20 66, iV x1, iV x2, iV (w32 (x3 + 0)), iV (w32 (x4 + 1)), uV, uV] [] σ)) else (X 75 [rV 20 66, iV x1, iV x2, iV x3, iV x4, iV x5, iV x6] [] σ)) : X 69 [rV 20 66, iV x1, iV x2, iV x3, iV x4, iV x5, iV x6] [] σ := by
  refine st_iload (pc := 69) hC dX11_smooth_69 rfl ?_
  refine st_iload_n (pc := 71) hC dX11_smooth_71 rfl ?_
  refine st_icmp_gt (tg := 99) (pc := 72) hC dX11_smooth_72 (by decide) (ite_im h (fun h => ?_) (fun h => ?_))
  · refine st_iload_n (pc := 99) hC dX11_smooth_99 rfl ?_
    refine st_iload (pc := 100) hC dX11_smooth_100 rfl ?_
    refine st_iconst (pc := 102) hC dX11_smooth_102 (by decide) ?_
    refine st_icmp_ne (tg := 110) (pc := 103) hC dX11_smooth_103 (by decide) (ite_im h (fun h => ?_) (fun h => ?_))
    · refine st_iconst (pc := 106) hC dX11_smooth_106 (by decide) ?_
      refine st_goto (tg := 111) (pc := 107) hC dX11_smooth_107 (by decide) ?_
      refine st_iadd (pc := 111) hC dX11_smooth_111 ?_
      refine st_istore_n (L2 := [rV 20 66, iV x1, iV x2, iV (w32 (x3 + 1)), iV x4, iV x5, iV x6]) (pc := 112) hC dX11_smooth_112 (Nat.le_of_ble_eq_true rfl) rfl ?_
      refine st_iinc (L2 := [rV 20 66, iV x1, iV x2, iV (w32 (x3 + 1)), iV (w32 (x4 + 1)), iV x5, iV x6]) (pc := 113) hC dX11_smooth_113 rfl (Nat.le_of_ble_eq_true rfl) rfl ?_
      refine st_goto (tg := 56) (pc := 116) hC dX11_smooth_116 (by decide) ?_
      exact st_fg (L2 := [rV 20 66, iV x1, iV x2, iV (w32 (x3 + 1)), iV (w32 (x4 + 1)), uV, uV]) hC ⟨Or.inl rfl, Or.inl rfl, Or.inl rfl, Or.inl rfl, Or.inl rfl, Or.inr rfl, Or.inr rfl, trivial⟩ h
    · refine st_iconst (pc := 110) hC dX11_smooth_110 (by decide) ?_
      refine st_iadd (pc := 111) hC dX11_smooth_111 ?_
      refine st_istore_n (L2 := [rV 20 66, iV x1, iV x2, iV (w32 (x3 + 0)), iV x4, iV x5, iV x6]) (pc := 112) hC dX11_smooth_112 (Nat.le_of_ble_eq_true rfl) rfl ?_
      refine st_iinc (L2 := [rV 20 66, iV x1, iV x2, iV (w32 (x3 + 0)), iV (w32 (x4 + 1)), iV x5, iV x6]) (pc := 113) hC dX11_smooth_113 rfl (Nat.le_of_ble_eq_true rfl) rfl ?_
      refine st_goto (tg := 56) (pc := 116) hC dX11_smooth_116 (by decide) ?_
      exact st_fg (L2 := [rV 20 66, iV x1, iV x2, iV (w32 (x3 + 0)), iV (w32 (x4 + 1)), uV, uV]) hC ⟨Or.inl rfl, Or.inl rfl, Or.inl rfl, Or.inl rfl, Or.inl rfl, Or.inr rfl, Or.inr rfl, trivial⟩ h
  · exact h
theorem bX11_smooth_75 {C : Nat → List Vv → Sg → Rs → Sg → Prop} {X : Nat → List Vv → List Vv → Sg → Prop} {Xr : List Vv → Sg → Prop} {Xt : Nat → Sg → Prop} (hC : Clo C 11 cX11_smooth (some .int) X Xr Xt) {x1 x2 x3 x4 x5 x6 : Int} {σ : Sg} (h : x6 ≠ 0 ∧ (if (x5.tmod x6) = 0 then (x6 ≠ 0 ∧ (X 75 [rV 20 66, iV x1, iV x2, iV x3, iV x4, iV (w32 (x5.tdiv x6)), iV x6] [] σ)) else (X 69 [rV 20 66, iV x1, iV x2, iV x3, iV x4, iV x5, iV (w32 (x6 + 1))] [] σ))) : X 75 [rV 20 66, iV x1, iV x2, iV x3, iV x4, iV x5, iV x6] [] σ := by
  refine st_iload (pc := 75) hC dX11_smooth_75 rfl ?_
  refine st_iload (pc := 77) hC dX11_smooth_77 rfl ?_
  obtain ⟨h0, h⟩ := h
  refine st_irem (pc := 79) hC dX11_smooth_79 h0 ?_
  refine st_if_ne (tg := 93) (pc := 80) hC dX11_smooth_80 (by decide) (ite_im h (fun h => ?_) (fun h => ?_))
  · refine st_iload (pc := 83) hC dX11_smooth_83 rfl ?_
    refine st_iload (pc := 85) hC dX11_smooth_85 rfl ?_
    obtain ⟨h0, h⟩ := h
    refine st_idiv (pc := 87) hC dX11_smooth_87 h0 ?_
    refine st_istore (L2 := [rV 20 66, iV x1, iV x2, iV x3, iV x4, iV (w32 (x5.tdiv x6)), iV x6]) (pc := 88) hC dX11_smooth_88 (Nat.le_of_ble_eq_true rfl) rfl ?_
    refine st_goto (tg := 75) (pc := 90) hC dX11_smooth_90 (by decide) ?_
    exact h
  · refine st_iinc (L2 := [rV 20 66, iV x1, iV x2, iV x3, iV x4, iV x5, iV (w32 (x6 + 1))]) (pc := 93) hC dX11_smooth_93 rfl (Nat.le_of_ble_eq_true rfl) rfl ?_
    refine st_goto (tg := 69) (pc := 96) hC dX11_smooth_96 (by decide) ?_
    exact h
theorem bX11_primesTo_0 {C : Nat → List Vv → Sg → Rs → Sg → Prop} {X : Nat → List Vv → List Vv → Sg → Prop} {Xr : List Vv → Sg → Prop} {Xt : Nat → Sg → Prop} (hC : Clo C 11 cX11_primesTo (some .int) X Xr Xt) {x1 : Int} {σ : Sg} (h : ∃ v1 : Int, C MX11_within [lV x1, lV 1, lV 5000] (upS σ 66 5 0) (.inl [iV v1]) (upS σ 66 5 0) ∧ (if v1 = 0 then (∃ v2 : Int, ∃ σ2 : Sg, C MX11_fails [rV 20 66, iV 1] (upS σ 66 5 0) (.inl [iV v2]) σ2 ∧ (Xr [iV v2] σ2)) else (X 27 [rV 20 66, iV x1, iV 0, iV 2] [] (upS σ 66 5 0)))) : X 0 [rV 20 66, iV x1, uV, uV] [] σ := by
  refine st_aload_n (pc := 0) hC dX11_primesTo_0 rfl (by decide) (by decide) ?_
  refine st_iconst (pc := 1) hC dX11_primesTo_1 (by decide) ?_
  refine st_putfI (ci := 10) (f := 5) (pc := 2) hC dX11_primesTo_2 fl_11_64 rfl rfl ?_
  refine st_iload_n (pc := 5) hC dX11_primesTo_5 rfl ?_
  refine st_i2l (pc := 6) hC dX11_primesTo_6 ?_
  refine st_lconst1 (pc := 7) hC dX11_primesTo_7 ?_
  refine st_ldc2 (pc := 8) hC dX11_primesTo_8 rfl ?_
  obtain ⟨v1, hq, h⟩ := h
  refine st_invS (As := [lV x1, lV 1, lV 5000]) (v := [iV v1]) (S := []) (pc := 11) hC dX11_primesTo_11 cl_11_133 rfl rfl (Nat.le_of_ble_eq_true rfl) hq ?_
  refine st_if_ne (tg := 23) (pc := 14) hC dX11_primesTo_14 (by decide) (ite_im h (fun h => ?_) (fun h => ?_))
  · refine st_aload_n (pc := 17) hC dX11_primesTo_17 rfl (by decide) (by decide) ?_
    refine st_iconst (pc := 18) hC dX11_primesTo_18 (by decide) ?_
    obtain ⟨v2, σ2, hq, h⟩ := h
    refine st_invV (As := [iV 1]) (v := [iV v2]) (S := []) (pc := 19) hC dX11_primesTo_19 cl_11_178 rfl rfl (Nat.le_of_ble_eq_true rfl) cr_X11_fails hq ?_
    exact st_ireturn (pc := 22) hC dX11_primesTo_22 trivial h
  · refine st_iconst (pc := 23) hC dX11_primesTo_23 (by decide) ?_
    refine st_istore_n (L2 := [rV 20 66, iV x1, iV 0, uV]) (pc := 24) hC dX11_primesTo_24 (Nat.le_of_ble_eq_true rfl) rfl ?_
    refine st_iconst (pc := 25) hC dX11_primesTo_25 (by decide) ?_
    refine st_istore_n (L2 := [rV 20 66, iV x1, iV 0, iV 2]) (pc := 26) hC dX11_primesTo_26 (Nat.le_of_ble_eq_true rfl) rfl ?_
    exact h
theorem bX11_primesTo_27 {C : Nat → List Vv → Sg → Rs → Sg → Prop} {X : Nat → List Vv → List Vv → Sg → Prop} {Xr : List Vv → Sg → Prop} {Xt : Nat → Sg → Prop} (hC : Clo C 11 cX11_primesTo (some .int) X Xr Xt) {x1 x2 x3 : Int} {σ : Sg} (h : if x1 < x3 then (Xr [iV x2] σ) else (∃ v1 : Int, C MX11_isPrime [iV x3] σ (.inl [iV v1]) σ ∧ (if v1 = 0 then (X 27 [rV 20 66, iV x1, iV (w32 (x2 + 0)), iV (w32 (x3 + 1))] [] σ) else (X 27 [rV 20 66, iV x1, iV (w32 (x2 + 1)), iV (w32 (x3 + 1))] [] σ)))) : X 27 [rV 20 66, iV x1, iV x2, iV x3] [] σ := by
  refine st_iload_n (pc := 27) hC dX11_primesTo_27 rfl ?_
  refine st_iload_n (pc := 28) hC dX11_primesTo_28 rfl ?_
  refine st_icmp_gt (tg := 53) (pc := 29) hC dX11_primesTo_29 (by decide) (ite_im h (fun h => ?_) (fun h => ?_))
  · refine st_iload_n (pc := 53) hC dX11_primesTo_53 rfl ?_
    exact st_ireturn (pc := 54) hC dX11_primesTo_54 trivial h
  · refine st_iload_n (pc := 32) hC dX11_primesTo_32 rfl ?_
    refine st_iload_n (pc := 33) hC dX11_primesTo_33 rfl ?_
    obtain ⟨v1, hq, h⟩ := h
    refine st_invS (As := [iV x3]) (v := [iV v1]) (S := [iV x2]) (pc := 34) hC dX11_primesTo_34 cl_11_137 rfl rfl (Nat.le_of_ble_eq_true rfl) hq ?_
    refine st_if_eq (tg := 44) (pc := 37) hC dX11_primesTo_37 (by decide) (ite_im h (fun h => ?_) (fun h => ?_))
    · refine st_iconst (pc := 44) hC dX11_primesTo_44 (by decide) ?_
      refine st_iadd (pc := 45) hC dX11_primesTo_45 ?_
      refine st_istore_n (L2 := [rV 20 66, iV x1, iV (w32 (x2 + 0)), iV x3]) (pc := 46) hC dX11_primesTo_46 (Nat.le_of_ble_eq_true rfl) rfl ?_
      refine st_iinc (L2 := [rV 20 66, iV x1, iV (w32 (x2 + 0)), iV (w32 (x3 + 1))]) (pc := 47) hC dX11_primesTo_47 rfl (Nat.le_of_ble_eq_true rfl) rfl ?_
      refine st_goto (tg := 27) (pc := 50) hC dX11_primesTo_50 (by decide) ?_
      exact h
    · refine st_iconst (pc := 40) hC dX11_primesTo_40 (by decide) ?_
      refine st_goto (tg := 45) (pc := 41) hC dX11_primesTo_41 (by decide) ?_
      refine st_iadd (pc := 45) hC dX11_primesTo_45 ?_
      refine st_istore_n (L2 := [rV 20 66, iV x1, iV (w32 (x2 + 1)), iV x3]) (pc := 46) hC dX11_primesTo_46 (Nat.le_of_ble_eq_true rfl) rfl ?_
      refine st_iinc (L2 := [rV 20 66, iV x1, iV (w32 (x2 + 1)), iV (w32 (x3 + 1))]) (pc := 47) hC dX11_primesTo_47 rfl (Nat.le_of_ble_eq_true rfl) rfl ?_
      refine st_goto (tg := 27) (pc := 50) hC dX11_primesTo_50 (by decide) ?_
      exact h
theorem bX11_powerBy_0 {C : Nat → List Vv → Sg → Rs → Sg → Prop} {X : Nat → List Vv → List Vv → Sg → Prop} {Xr : List Vv → Sg → Prop} {Xt : Nat → Sg → Prop} (hC : Clo C 11 cX11_powerBy (some .long) X Xr Xt) {x0 x2 x3 : Int} {σ : Sg} (h : x3 ≠ 0 ∧ (x3 ≠ 0 ∧ (X 13 [lV x0, uV, iV x2, lV x3, uV, lV ((1 : Int).tmod x3), uV, lV (x0.tmod x3), uV, iV x2] [] σ))) : X 0 [lV x0, uV, iV x2, lV x3, uV, uV, uV, uV, uV, uV] [] σ := by
  refine st_lconst1 (pc := 0) hC dX11_powerBy_0 ?_
  refine st_lload_n (pc := 1) hC dX11_powerBy_1 rfl ?_
  obtain ⟨h0, h⟩ := h
  refine st_lrem (pc := 2) hC dX11_powerBy_2 h0 ?_
  refine st_lstore (L2 := [lV x0, uV, iV x2, lV x3, uV, lV ((1 : Int).tmod x3), uV, uV, uV, uV]) (pc := 3) hC dX11_powerBy_3 (Nat.le_of_ble_eq_true rfl) rfl ?_
  refine st_lload_n (pc := 5) hC dX11_powerBy_5 rfl ?_
  refine st_lload_n (pc := 6) hC dX11_powerBy_6 rfl ?_
  obtain ⟨h0, h⟩ := h
  refine st_lrem (pc := 7) hC dX11_powerBy_7 h0 ?_
  refine st_lstore (L2 := [lV x0, uV, iV x2, lV x3, uV, lV ((1 : Int).tmod x3), uV, lV (x0.tmod x3), uV, uV]) (pc := 8) hC dX11_powerBy_8 (Nat.le_of_ble_eq_true rfl) rfl ?_
  refine st_iload_n (pc := 10) hC dX11_powerBy_10 rfl ?_
  refine st_istore (L2 := [lV x0, uV, iV x2, lV x3, uV, lV ((1 : Int).tmod x3), uV, lV (x0.tmod x3), uV, iV x2]) (pc := 11) hC dX11_powerBy_11 (Nat.le_of_ble_eq_true rfl) rfl ?_
  exact h
theorem bX11_powerBy_13 {C : Nat → List Vv → Sg → Rs → Sg → Prop} {X : Nat → List Vv → List Vv → Sg → Prop} {Xr : List Vv → Sg → Prop} {Xt : Nat → Sg → Prop} (hC : Clo C 11 cX11_powerBy (some .long) X Xr Xt) {x0 x2 x3 x5 x7 x9 : Int} {σ : Sg} (h : if (0 : Int) < x9 then (if (iandI x9 1) = 1 then (x3 ≠ 0 ∧ (x3 ≠ 0 ∧ (X 13 [lV x0, uV, iV x2, lV x3, uV, lV ((w64 (x5 * x7)).tmod x3), uV, lV ((w64 (x7 * x7)).tmod x3), uV, iV (ishrI x9 1)] [] σ))) else (x3 ≠ 0 ∧ (X 13 [lV x0, uV, iV x2, lV x3, uV, lV x5, uV, lV ((w64 (x7 * x7)).tmod x3), uV, iV (ishrI x9 1)] [] σ))) else (Xr [lV x5] σ)) : X 13 [lV x0, uV, iV x2, lV x3, uV, lV x5, uV, lV x7, uV, iV x9] [] σ := by
  refine st_iload (pc := 13) hC dX11_powerBy_13 rfl ?_
  refine st_if_le (tg := 53) (pc := 15) hC dX11_powerBy_15 (by decide) (ite_im h (fun h => ?_) (fun h => ?_))
  · refine st_iload (pc := 18) hC dX11_powerBy_18 rfl ?_
    refine st_iconst (pc := 20) hC dX11_powerBy_20 (by decide) ?_
    refine st_iand (pc := 21) hC dX11_powerBy_21 ?_
    refine st_iconst (pc := 22) hC dX11_powerBy_22 (by decide) ?_
    refine st_icmp_ne (tg := 35) (pc := 23) hC dX11_powerBy_23 (by decide) (ite_im h (fun h => ?_) (fun h => ?_))
    · refine st_lload (pc := 26) hC dX11_powerBy_26 rfl ?_
      refine st_lload (pc := 28) hC dX11_powerBy_28 rfl ?_
      refine st_lmul (pc := 30) hC dX11_powerBy_30 ?_
      refine st_lload_n (pc := 31) hC dX11_powerBy_31 rfl ?_
      obtain ⟨h0, h⟩ := h
      refine st_lrem (pc := 32) hC dX11_powerBy_32 h0 ?_
      refine st_lstore (L2 := [lV x0, uV, iV x2, lV x3, uV, lV ((w64 (x5 * x7)).tmod x3), uV, lV x7, uV, iV x9]) (pc := 33) hC dX11_powerBy_33 (Nat.le_of_ble_eq_true rfl) rfl ?_
      refine st_lload (pc := 35) hC dX11_powerBy_35 rfl ?_
      refine st_lload (pc := 37) hC dX11_powerBy_37 rfl ?_
      refine st_lmul (pc := 39) hC dX11_powerBy_39 ?_
      refine st_lload_n (pc := 40) hC dX11_powerBy_40 rfl ?_
      obtain ⟨h0, h⟩ := h
      refine st_lrem (pc := 41) hC dX11_powerBy_41 h0 ?_
      refine st_lstore (L2 := [lV x0, uV, iV x2, lV x3, uV, lV ((w64 (x5 * x7)).tmod x3), uV, lV ((w64 (x7 * x7)).tmod x3), uV, iV x9]) (pc := 42) hC dX11_powerBy_42 (Nat.le_of_ble_eq_true rfl) rfl ?_
      refine st_iload (pc := 44) hC dX11_powerBy_44 rfl ?_
      refine st_iconst (pc := 46) hC dX11_powerBy_46 (by decide) ?_
      refine st_ishr (pc := 47) hC dX11_powerBy_47 ?_
      refine st_istore (L2 := [lV x0, uV, iV x2, lV x3, uV, lV ((w64 (x5 * x7)).tmod x3), uV, lV ((w64 (x7 * x7)).tmod x3), uV, iV (ishrI x9 1)]) (pc := 48) hC dX11_powerBy_48 (Nat.le_of_ble_eq_true rfl) rfl ?_
      refine st_goto (tg := 13) (pc := 50) hC dX11_powerBy_50 (by decide) ?_
      exact h
    · refine st_lload (pc := 35) hC dX11_powerBy_35 rfl ?_
      refine st_lload (pc := 37) hC dX11_powerBy_37 rfl ?_
      refine st_lmul (pc := 39) hC dX11_powerBy_39 ?_
      refine st_lload_n (pc := 40) hC dX11_powerBy_40 rfl ?_
      obtain ⟨h0, h⟩ := h
      refine st_lrem (pc := 41) hC dX11_powerBy_41 h0 ?_
      refine st_lstore (L2 := [lV x0, uV, iV x2, lV x3, uV, lV x5, uV, lV ((w64 (x7 * x7)).tmod x3), uV, iV x9]) (pc := 42) hC dX11_powerBy_42 (Nat.le_of_ble_eq_true rfl) rfl ?_
      refine st_iload (pc := 44) hC dX11_powerBy_44 rfl ?_
      refine st_iconst (pc := 46) hC dX11_powerBy_46 (by decide) ?_
      refine st_ishr (pc := 47) hC dX11_powerBy_47 ?_
      refine st_istore (L2 := [lV x0, uV, iV x2, lV x3, uV, lV x5, uV, lV ((w64 (x7 * x7)).tmod x3), uV, iV (ishrI x9 1)]) (pc := 48) hC dX11_powerBy_48 (Nat.le_of_ble_eq_true rfl) rfl ?_
      refine st_goto (tg := 13) (pc := 50) hC dX11_powerBy_50 (by decide) ?_
      exact h
  · refine st_lload (pc := 53) hC dX11_powerBy_53 rfl ?_
    exact st_lreturn (pc := 55) hC dX11_powerBy_55 h
theorem bX11_witness_0 {C : Nat → List Vv → Sg → Rs → Sg → Prop} {X : Nat → List Vv → List Vv → Sg → Prop} {Xr : List Vv → Sg → Prop} {Xt : Nat → Sg → Prop} (hC : Clo C 11 cX11_witness (some .int) X Xr Xt) {x1 : Int} {σ : Sg} (h : ∃ v1 : Int, C MX11_within [lV x1, lV 2, lV 1000000000] (upS σ 66 5 0) (.inl [iV v1]) (upS σ 66 5 0) ∧ (if v1 = 0 then (∃ v2 : Int, ∃ σ2 : Sg, C MX11_fails [rV 20 66, iV 1] (upS σ 66 5 0) (.inl [iV v2]) σ2 ∧ (Xr [iV v2] σ2)) else (X 27 [rV 20 66, iV x1, iV 2] [] (upS σ 66 5 0)))) : X 0 [rV 20 66, iV x1, uV] [] σ := by
  refine st_aload_n (pc := 0) hC dX11_witness_0 rfl (by decide) (by decide) ?_
  refine st_iconst (pc := 1) hC dX11_witness_1 (by decide) ?_
  refine st_putfI (ci := 10) (f := 5) (pc := 2) hC dX11_witness_2 fl_11_64 rfl rfl ?_
  refine st_iload_n (pc := 5) hC dX11_witness_5 rfl ?_
  refine st_i2l (pc := 6) hC dX11_witness_6 ?_
  refine st_ldc2 (pc := 7) hC dX11_witness_7 rfl ?_
  refine st_ldc2 (pc := 10) hC dX11_witness_10 rfl ?_
  obtain ⟨v1, hq, h⟩ := h
  refine st_invS (As := [lV x1, lV 2, lV 1000000000]) (v := [iV v1]) (S := []) (pc := 13) hC dX11_witness_13 cl_11_133 rfl rfl (Nat.le_of_ble_eq_true rfl) hq ?_
  refine st_if_ne (tg := 25) (pc := 16) hC dX11_witness_16 (by decide) (ite_im h (fun h => ?_) (fun h => ?_))
  · refine st_aload_n (pc := 19) hC dX11_witness_19 rfl (by decide) (by decide) ?_
    refine st_iconst (pc := 20) hC dX11_witness_20 (by decide) ?_
    obtain ⟨v2, σ2, hq, h⟩ := h
    refine st_invV (As := [iV 1]) (v := [iV v2]) (S := []) (pc := 21) hC dX11_witness_21 cl_11_178 rfl rfl (Nat.le_of_ble_eq_true rfl) cr_X11_fails hq ?_
    exact st_ireturn (pc := 24) hC dX11_witness_24 trivial h
  · refine st_iconst (pc := 25) hC dX11_witness_25 (by decide) ?_
    refine st_istore_n (L2 := [rV 20 66, iV x1, iV 2]) (pc := 26) hC dX11_witness_26 (Nat.le_of_ble_eq_true rfl) rfl ?_
    exact h
theorem bX11_witness_27 {C : Nat → List Vv → Sg → Rs → Sg → Prop} {X : Nat → List Vv → List Vv → Sg → Prop} {Xr : List Vv → Sg → Prop} {Xt : Nat → Sg → Prop} (hC : Clo C 11 cX11_witness (some .int) X Xr Xt) {x1 x2 : Int} {σ : Sg} (h : if (60 : Int) < x2 then (Xr [iV (-1)] σ) else (if x2 < x1 then (∃ v1 : Int, C MX11_powerBy [lV x2, iV (w32 (x1 - 1)), lV x1] σ (.inl [lV v1]) σ ∧ (if v1 = 1 then (X 27 [rV 20 66, iV x1, iV (w32 (x2 + 1))] [] σ) else (Xr [iV x2] σ))) else (Xr [iV (-1)] σ))) : X 27 [rV 20 66, iV x1, iV x2] [] σ := by
  refine st_iload_n (pc := 27) hC dX11_witness_27 rfl ?_
  refine st_bipush (pc := 28) hC dX11_witness_28 (by decide) ?_
  refine st_icmp_gt (tg := 61) (pc := 30) hC dX11_witness_30 (by decide) (ite_im h (fun h => ?_) (fun h => ?_))
  · refine st_iconst (pc := 61) hC dX11_witness_61 (by decide) ?_
    exact st_ireturn (pc := 62) hC dX11_witness_62 trivial h
  · refine st_iload_n (pc := 33) hC dX11_witness_33 rfl ?_
    refine st_iload_n (pc := 34) hC dX11_witness_34 rfl ?_
    refine st_icmp_ge (tg := 61) (pc := 35) hC dX11_witness_35 (by decide) (ite_im h (fun h => ?_) (fun h => ?_))
    · refine st_iload_n (pc := 38) hC dX11_witness_38 rfl ?_
      refine st_i2l (pc := 39) hC dX11_witness_39 ?_
      refine st_iload_n (pc := 40) hC dX11_witness_40 rfl ?_
      refine st_iconst (pc := 41) hC dX11_witness_41 (by decide) ?_
      refine st_isub (pc := 42) hC dX11_witness_42 ?_
      refine st_iload_n (pc := 43) hC dX11_witness_43 rfl ?_
      refine st_i2l (pc := 44) hC dX11_witness_44 ?_
      obtain ⟨v1, hq, h⟩ := h
      refine st_invS (As := [lV x2, iV (w32 (x1 - 1)), lV x1]) (v := [lV v1]) (S := []) (pc := 45) hC dX11_witness_45 cl_11_365 rfl rfl (Nat.le_of_ble_eq_true rfl) hq ?_
      refine st_lconst1 (pc := 48) hC dX11_witness_48 ?_
      refine st_lcmp_eq (tg := 55) (pc := 49) hC dX11_witness_49 dX11_witness_50 (by decide) (ite_im h (fun h => ?_) (fun h => ?_))
      · refine st_iinc (L2 := [rV 20 66, iV x1, iV (w32 (x2 + 1))]) (pc := 55) hC dX11_witness_55 rfl (Nat.le_of_ble_eq_true rfl) rfl ?_
        refine st_goto (tg := 27) (pc := 58) hC dX11_witness_58 (by decide) ?_
        exact h
      · refine st_iload_n (pc := 53) hC dX11_witness_53 rfl ?_
        exact st_ireturn (pc := 54) hC dX11_witness_54 trivial h
    · refine st_iconst (pc := 61) hC dX11_witness_61 (by decide) ?_
      exact st_ireturn (pc := 62) hC dX11_witness_62 trivial h
theorem bX11_order_0 {C : Nat → List Vv → Sg → Rs → Sg → Prop} {X : Nat → List Vv → List Vv → Sg → Prop} {Xr : List Vv → Sg → Prop} {Xt : Nat → Sg → Prop} (hC : Clo C 11 cX11_order (some .int) X Xr Xt) {x1 x2 : Int} {σ : Sg} (h : ∃ v1 : Int, C MX11_within [lV x2, lV 2, lV 10000] σ (.inl [iV v1]) σ ∧ (if v1 = 0 then (if (0 : Int) < ((upS σ 66 5 1) 66 5) then (Xr [iV 0] (upS σ 66 5 1)) else (∃ v2 : Int, C MX11_shared [lV x1, lV x2] (upS σ 66 5 1) (.inl [lV v2]) (upS σ 66 5 1) ∧ (if v2 = 1 then (X 64 [rV 20 66, iV x1, iV x2, iV 1, iV x1] [] (upS σ 66 5 1)) else (Xr [iV (-1)] (upS σ 66 5 1))))) else (∃ v3 : Int, C MX11_within [lV x1, lV 1, lV (w32 (x2 - 1))] σ (.inl [iV v3]) σ ∧ (if v3 = 0 then (if (0 : Int) < ((upS σ 66 5 1) 66 5) then (Xr [iV 0] (upS σ 66 5 1)) else (∃ v4 : Int, C MX11_shared [lV x1, lV x2] (upS σ 66 5 1) (.inl [lV v4]) (upS σ 66 5 1) ∧ (if v4 = 1 then (X 64 [rV 20 66, iV x1, iV x2, iV 1, iV x1] [] (upS σ 66 5 1)) else (Xr [iV (-1)] (upS σ 66 5 1))))) else (if (0 : Int) < ((upS σ 66 5 0) 66 5) then (Xr [iV 0] (upS σ 66 5 0)) else (∃ v5 : Int, C MX11_shared [lV x1, lV x2] (upS σ 66 5 0) (.inl [lV v5]) (upS σ 66 5 0) ∧ (if v5 = 1 then (X 64 [rV 20 66, iV x1, iV x2, iV 1, iV x1] [] (upS σ 66 5 0)) else (Xr [iV (-1)] (upS σ 66 5 0))))))))) : X 0 [rV 20 66, iV x1, iV x2, uV, uV] [] σ := by
  refine st_aload_n (pc := 0) hC dX11_order_0 rfl (by decide) (by decide) ?_
  refine st_iload_n (pc := 1) hC dX11_order_1 rfl ?_
  refine st_i2l (pc := 2) hC dX11_order_2 ?_
  refine st_ldc2 (pc := 3) hC dX11_order_3 rfl ?_
  refine st_ldc2 (pc := 6) hC dX11_order_6 rfl ?_
  obtain ⟨v1, hq, h⟩ := h
  refine st_invS (As := [lV x2, lV 2, lV 10000]) (v := [iV v1]) (S := [rV 20 66]) (pc := 9) hC dX11_order_9 cl_11_133 rfl rfl (Nat.le_of_ble_eq_true rfl) hq ?_
  refine st_if_eq (tg := 32) (pc := 12) hC dX11_order_12 (by decide) (ite_im h (fun h => ?_) (fun h => ?_))
  · refine st_iconst (pc := 32) hC dX11_order_32 (by decide) ?_
    refine st_putfI (ci := 10) (f := 5) (pc := 33) hC dX11_order_33 fl_11_64 rfl rfl ?_
    refine st_aload_n (pc := 36) hC dX11_order_36 rfl (by decide) (by decide) ?_
    refine st_getf (ci := 10) (f := 5) (v := iV ((upS σ 66 5 1) 66 5)) (pc := 37) hC dX11_order_37 fl_11_64 rfl rfl ?_
    refine st_if_le (tg := 45) (pc := 40) hC dX11_order_40 (by decide) (ite_im h (fun h => ?_) (fun h => ?_))
    · refine st_iconst (pc := 43) hC dX11_order_43 (by decide) ?_
      exact st_ireturn (pc := 44) hC dX11_order_44 trivial h
    · refine st_iload_n (pc := 45) hC dX11_order_45 rfl ?_
      refine st_i2l (pc := 46) hC dX11_order_46 ?_
      refine st_iload_n (pc := 47) hC dX11_order_47 rfl ?_
      refine st_i2l (pc := 48) hC dX11_order_48 ?_
      obtain ⟨v2, hq, h⟩ := h
      refine st_invS (As := [lV x1, lV x2]) (v := [lV v2]) (S := []) (pc := 49) hC dX11_order_49 cl_11_360 rfl rfl (Nat.le_of_ble_eq_true rfl) hq ?_
      refine st_lconst1 (pc := 52) hC dX11_order_52 ?_
      refine st_lcmp_eq (tg := 59) (pc := 53) hC dX11_order_53 dX11_order_54 (by decide) (ite_im h (fun h => ?_) (fun h => ?_))
      · refine st_iconst (pc := 59) hC dX11_order_59 (by decide) ?_
        refine st_istore_n (L2 := [rV 20 66, iV x1, iV x2, iV 1, uV]) (pc := 60) hC dX11_order_60 (Nat.le_of_ble_eq_true rfl) rfl ?_
        refine st_iload_n (pc := 61) hC dX11_order_61 rfl ?_
        refine st_istore (L2 := [rV 20 66, iV x1, iV x2, iV 1, iV x1]) (pc := 62) hC dX11_order_62 (Nat.le_of_ble_eq_true rfl) rfl ?_
        exact h
      · refine st_iconst (pc := 57) hC dX11_order_57 (by decide) ?_
        exact st_ireturn (pc := 58) hC dX11_order_58 trivial h
  · refine st_iload_n (pc := 15) hC dX11_order_15 rfl ?_
    refine st_i2l (pc := 16) hC dX11_order_16 ?_
    refine st_lconst1 (pc := 17) hC dX11_order_17 ?_
    refine st_iload_n (pc := 18) hC dX11_order_18 rfl ?_
    refine st_iconst (pc := 19) hC dX11_order_19 (by decide) ?_
    refine st_isub (pc := 20) hC dX11_order_20 ?_
    refine st_i2l (pc := 21) hC dX11_order_21 ?_
    obtain ⟨v3, hq, h⟩ := h
    refine st_invS (As := [lV x1, lV 1, lV (w32 (x2 - 1))]) (v := [iV v3]) (S := [rV 20 66]) (pc := 22) hC dX11_order_22 cl_11_133 rfl rfl (Nat.le_of_ble_eq_true rfl) hq ?_
    refine st_if_eq (tg := 32) (pc := 25) hC dX11_order_25 (by decide) (ite_im h (fun h => ?_) (fun h => ?_))
    · refine st_iconst (pc := 32) hC dX11_order_32 (by decide) ?_
      refine st_putfI (ci := 10) (f := 5) (pc := 33) hC dX11_order_33 fl_11_64 rfl rfl ?_
      refine st_aload_n (pc := 36) hC dX11_order_36 rfl (by decide) (by decide) ?_
      refine st_getf (ci := 10) (f := 5) (v := iV ((upS σ 66 5 1) 66 5)) (pc := 37) hC dX11_order_37 fl_11_64 rfl rfl ?_
      refine st_if_le (tg := 45) (pc := 40) hC dX11_order_40 (by decide) (ite_im h (fun h => ?_) (fun h => ?_))
      · refine st_iconst (pc := 43) hC dX11_order_43 (by decide) ?_
        exact st_ireturn (pc := 44) hC dX11_order_44 trivial h
      · refine st_iload_n (pc := 45) hC dX11_order_45 rfl ?_
        refine st_i2l (pc := 46) hC dX11_order_46 ?_
        refine st_iload_n (pc := 47) hC dX11_order_47 rfl ?_
        refine st_i2l (pc := 48) hC dX11_order_48 ?_
        obtain ⟨v4, hq, h⟩ := h
        refine st_invS (As := [lV x1, lV x2]) (v := [lV v4]) (S := []) (pc := 49) hC dX11_order_49 cl_11_360 rfl rfl (Nat.le_of_ble_eq_true rfl) hq ?_
        refine st_lconst1 (pc := 52) hC dX11_order_52 ?_
        refine st_lcmp_eq (tg := 59) (pc := 53) hC dX11_order_53 dX11_order_54 (by decide) (ite_im h (fun h => ?_) (fun h => ?_))
        · refine st_iconst (pc := 59) hC dX11_order_59 (by decide) ?_
          refine st_istore_n (L2 := [rV 20 66, iV x1, iV x2, iV 1, uV]) (pc := 60) hC dX11_order_60 (Nat.le_of_ble_eq_true rfl) rfl ?_
          refine st_iload_n (pc := 61) hC dX11_order_61 rfl ?_
          refine st_istore (L2 := [rV 20 66, iV x1, iV x2, iV 1, iV x1]) (pc := 62) hC dX11_order_62 (Nat.le_of_ble_eq_true rfl) rfl ?_
          exact h
        · refine st_iconst (pc := 57) hC dX11_order_57 (by decide) ?_
          exact st_ireturn (pc := 58) hC dX11_order_58 trivial h
    · refine st_iconst (pc := 28) hC dX11_order_28 (by decide) ?_
      refine st_goto (tg := 33) (pc := 29) hC dX11_order_29 (by decide) ?_
      refine st_putfI (ci := 10) (f := 5) (pc := 33) hC dX11_order_33 fl_11_64 rfl rfl ?_
      refine st_aload_n (pc := 36) hC dX11_order_36 rfl (by decide) (by decide) ?_
      refine st_getf (ci := 10) (f := 5) (v := iV ((upS σ 66 5 0) 66 5)) (pc := 37) hC dX11_order_37 fl_11_64 rfl rfl ?_
      refine st_if_le (tg := 45) (pc := 40) hC dX11_order_40 (by decide) (ite_im h (fun h => ?_) (fun h => ?_))
      · refine st_iconst (pc := 43) hC dX11_order_43 (by decide) ?_
        exact st_ireturn (pc := 44) hC dX11_order_44 trivial h
      · refine st_iload_n (pc := 45) hC dX11_order_45 rfl ?_
        refine st_i2l (pc := 46) hC dX11_order_46 ?_
        refine st_iload_n (pc := 47) hC dX11_order_47 rfl ?_
        refine st_i2l (pc := 48) hC dX11_order_48 ?_
        obtain ⟨v5, hq, h⟩ := h
        refine st_invS (As := [lV x1, lV x2]) (v := [lV v5]) (S := []) (pc := 49) hC dX11_order_49 cl_11_360 rfl rfl (Nat.le_of_ble_eq_true rfl) hq ?_
        refine st_lconst1 (pc := 52) hC dX11_order_52 ?_
        refine st_lcmp_eq (tg := 59) (pc := 53) hC dX11_order_53 dX11_order_54 (by decide) (ite_im h (fun h => ?_) (fun h => ?_))
        · refine st_iconst (pc := 59) hC dX11_order_59 (by decide) ?_
          refine st_istore_n (L2 := [rV 20 66, iV x1, iV x2, iV 1, uV]) (pc := 60) hC dX11_order_60 (Nat.le_of_ble_eq_true rfl) rfl ?_
          refine st_iload_n (pc := 61) hC dX11_order_61 rfl ?_
          refine st_istore (L2 := [rV 20 66, iV x1, iV x2, iV 1, iV x1]) (pc := 62) hC dX11_order_62 (Nat.le_of_ble_eq_true rfl) rfl ?_
          exact h
        · refine st_iconst (pc := 57) hC dX11_order_57 (by decide) ?_
          exact st_ireturn (pc := 58) hC dX11_order_58 trivial h
theorem bX11_order_64 {C : Nat → List Vv → Sg → Rs → Sg → Prop} {X : Nat → List Vv → List Vv → Sg → Prop} {Xr : List Vv → Sg → Prop} {Xt : Nat → Sg → Prop} (hC : Clo C 11 cX11_order (some .int) X Xr Xt) {x1 x2 x3 x4 : Int} {σ : Sg} (h : if x4 = 1 then (Xr [iV x3] σ) else (x2 ≠ 0 ∧ (X 64 [rV 20 66, iV x1, iV x2, iV (w32 (x3 + 1)), iV ((w32 (x4 * x1)).tmod x2)] [] σ))) : X 64 [rV 20 66, iV x1, iV x2, iV x3, iV x4] [] σ := by
  refine st_iload (pc := 64) hC dX11_order_64 rfl ?_
  refine st_iconst (pc := 66) hC dX11_order_66 (by decide) ?_
  refine st_icmp_eq (tg := 84) (pc := 67) hC dX11_order_67 (by decide) (ite_im h (fun h => ?_) (fun h => ?_))
  · refine st_iload_n (pc := 84) hC dX11_order_84 rfl ?_
    exact st_ireturn (pc := 85) hC dX11_order_85 trivial h
  · refine st_iinc (L2 := [rV 20 66, iV x1, iV x2, iV (w32 (x3 + 1)), iV x4]) (pc := 70) hC dX11_order_70 rfl (Nat.le_of_ble_eq_true rfl) rfl ?_
    refine st_iload (pc := 73) hC dX11_order_73 rfl ?_
    refine st_iload_n (pc := 75) hC dX11_order_75 rfl ?_
    refine st_imul (pc := 76) hC dX11_order_76 ?_
    refine st_iload_n (pc := 77) hC dX11_order_77 rfl ?_
    obtain ⟨h0, h⟩ := h
    refine st_irem (pc := 78) hC dX11_order_78 h0 ?_
    refine st_istore (L2 := [rV 20 66, iV x1, iV x2, iV (w32 (x3 + 1)), iV ((w32 (x4 * x1)).tmod x2)]) (pc := 79) hC dX11_order_79 (Nat.le_of_ble_eq_true rfl) rfl ?_
    refine st_goto (tg := 64) (pc := 81) hC dX11_order_81 (by decide) ?_
    exact h
theorem bX11_debt_0 {C : Nat → List Vv → Sg → Rs → Sg → Prop} {X : Nat → List Vv → List Vv → Sg → Prop} {Xr : List Vv → Sg → Prop} {Xt : Nat → Sg → Prop} (hC : Clo C 11 cX11_debt (some .int) X Xr Xt) {x1 x2 : Int} {σ : Sg} (h : (0 ≤ (w32 ((w32 (156 + (w32 (5 * x1)))) + x2)) ∧ (w32 ((w32 (156 + (w32 (5 * x1)))) + x2)) < 181) ∧ (Xr [iV (σ 67 ((w32 ((w32 (156 + (w32 (5 * x1)))) + x2))).toNat)] σ)) : X 0 [rV 20 66, iV x1, iV x2] [] σ := by
  refine st_aload_n (pc := 0) hC dX11_debt_0 rfl (by decide) (by decide) ?_
  refine st_getf (ci := 10) (f := 0) (v := rV 1000181 67) (pc := 1) hC dX11_debt_1 fl_11_9 rfl rfl ?_
  refine st_sipush (pc := 4) hC dX11_debt_4 (by decide) ?_
  refine st_iconst (pc := 7) hC dX11_debt_7 (by decide) ?_
  refine st_iload_n (pc := 8) hC dX11_debt_8 rfl ?_
  refine st_imul (pc := 9) hC dX11_debt_9 ?_
  refine st_iadd (pc := 10) hC dX11_debt_10 ?_
  refine st_iload_n (pc := 11) hC dX11_debt_11 rfl ?_
  refine st_iadd (pc := 12) hC dX11_debt_12 ?_
  obtain ⟨hb, h⟩ := h
  refine st_iald (n := 181) (pc := 13) hC dX11_debt_13 (by decide) hb ?_
  exact st_ireturn (pc := 14) hC dX11_debt_14 trivial h
theorem bX11_owe_0 {C : Nat → List Vv → Sg → Rs → Sg → Prop} {X : Nat → List Vv → List Vv → Sg → Prop} {Xr : List Vv → Sg → Prop} {Xt : Nat → Sg → Prop} (hC : Clo C 11 cX11_owe (some .long) X Xr Xt) {x1 x2 x3 : Int} {σ : Sg} (h : ∃ v1 : Int, C MX11_isPerson [rV 20 66, lV x1] σ (.inl [iV v1]) σ ∧ (if v1 = 0 then (if (0 : Int) < ((upS σ 66 5 1) 66 5) then (Xr [lV 0] (upS σ 66 5 1)) else ((0 ≤ (w32 ((w32 (156 + (w32 (5 * x1)))) + x2)) ∧ (w32 ((w32 (156 + (w32 (5 * x1)))) + x2)) < 181) ∧ ((0 ≤ (w32 ((w32 (156 + (w32 (5 * x1)))) + x2)) ∧ (w32 ((w32 (156 + (w32 (5 * x1)))) + x2)) < 181) ∧ (∃ v2 : Int, C MX11_debt [rV 20 66, iV x1, iV x2] (upS (upS σ 66 5 1) 67 ((w32 ((w32 (156 + (w32 (5 * x1)))) + x2))).toNat (w32 (((upS σ 66 5 1) 67 ((w32 ((w32 (156 + (w32 (5 * x1)))) + x2))).toNat) * (w32 x3)))) (.inl [iV v2]) (upS (upS σ 66 5 1) 67 ((w32 ((w32 (156 + (w32 (5 * x1)))) + x2))).toNat (w32 (((upS σ 66 5 1) 67 ((w32 ((w32 (156 + (w32 (5 * x1)))) + x2))).toNat) * (w32 x3)))) ∧ (Xr [lV v2] (upS (upS σ 66 5 1) 67 ((w32 ((w32 (156 + (w32 (5 * x1)))) + x2))).toNat (w32 (((upS σ 66 5 1) 67 ((w32 ((w32 (156 + (w32 (5 * x1)))) + x2))).toNat) * (w32 x3))))))))) else (∃ v3 : Int, C MX11_isPerson [rV 20 66, lV x2] σ (.inl [iV v3]) σ ∧ (if v3 = 0 then (if (0 : Int) < ((upS σ 66 5 1) 66 5) then (Xr [lV 0] (upS σ 66 5 1)) else ((0 ≤ (w32 ((w32 (156 + (w32 (5 * x1)))) + x2)) ∧ (w32 ((w32 (156 + (w32 (5 * x1)))) + x2)) < 181) ∧ ((0 ≤ (w32 ((w32 (156 + (w32 (5 * x1)))) + x2)) ∧ (w32 ((w32 (156 + (w32 (5 * x1)))) + x2)) < 181) ∧ (∃ v4 : Int, C MX11_debt [rV 20 66, iV x1, iV x2] (upS (upS σ 66 5 1) 67 ((w32 ((w32 (156 + (w32 (5 * x1)))) + x2))).toNat (w32 (((upS σ 66 5 1) 67 ((w32 ((w32 (156 + (w32 (5 * x1)))) + x2))).toNat) * (w32 x3)))) (.inl [iV v4]) (upS (upS σ 66 5 1) 67 ((w32 ((w32 (156 + (w32 (5 * x1)))) + x2))).toNat (w32 (((upS σ 66 5 1) 67 ((w32 ((w32 (156 + (w32 (5 * x1)))) + x2))).toNat) * (w32 x3)))) ∧ (Xr [lV v4] (upS (upS σ 66 5 1) 67 ((w32 ((w32 (156 + (w32 (5 * x1)))) + x2))).toNat (w32 (((upS σ 66 5 1) 67 ((w32 ((w32 (156 + (w32 (5 * x1)))) + x2))).toNat) * (w32 x3))))))))) else (if x1 = x2 then (if (0 : Int) < ((upS σ 66 5 2) 66 5) then (Xr [lV 0] (upS σ 66 5 2)) else ((0 ≤ (w32 ((w32 (156 + (w32 (5 * x1)))) + x2)) ∧ (w32 ((w32 (156 + (w32 (5 * x1)))) + x2)) < 181) ∧ ((0 ≤ (w32 ((w32 (156 + (w32 (5 * x1)))) + x2)) ∧ (w32 ((w32 (156 + (w32 (5 * x1)))) + x2)) < 181) ∧ (∃ v5 : Int, C MX11_debt [rV 20 66, iV x1, iV x2] (upS (upS σ 66 5 2) 67 ((w32 ((w32 (156 + (w32 (5 * x1)))) + x2))).toNat (w32 (((upS σ 66 5 2) 67 ((w32 ((w32 (156 + (w32 (5 * x1)))) + x2))).toNat) * (w32 x3)))) (.inl [iV v5]) (upS (upS σ 66 5 2) 67 ((w32 ((w32 (156 + (w32 (5 * x1)))) + x2))).toNat (w32 (((upS σ 66 5 2) 67 ((w32 ((w32 (156 + (w32 (5 * x1)))) + x2))).toNat) * (w32 x3)))) ∧ (Xr [lV v5] (upS (upS σ 66 5 2) 67 ((w32 ((w32 (156 + (w32 (5 * x1)))) + x2))).toNat (w32 (((upS σ 66 5 2) 67 ((w32 ((w32 (156 + (w32 (5 * x1)))) + x2))).toNat) * (w32 x3))))))))) else (∃ v6 : Int, C MX11_within [lV x3, lV 1, lV 1000000] σ (.inl [iV v6]) σ ∧ (if v6 = 0 then (if (0 : Int) < ((upS σ 66 5 2) 66 5) then (Xr [lV 0] (upS σ 66 5 2)) else ((0 ≤ (w32 ((w32 (156 + (w32 (5 * x1)))) + x2)) ∧ (w32 ((w32 (156 + (w32 (5 * x1)))) + x2)) < 181) ∧ ((0 ≤ (w32 ((w32 (156 + (w32 (5 * x1)))) + x2)) ∧ (w32 ((w32 (156 + (w32 (5 * x1)))) + x2)) < 181) ∧ (∃ v7 : Int, C MX11_debt [rV 20 66, iV x1, iV x2] (upS (upS σ 66 5 2) 67 ((w32 ((w32 (156 + (w32 (5 * x1)))) + x2))).toNat (w32 (((upS σ 66 5 2) 67 ((w32 ((w32 (156 + (w32 (5 * x1)))) + x2))).toNat) * (w32 x3)))) (.inl [iV v7]) (upS (upS σ 66 5 2) 67 ((w32 ((w32 (156 + (w32 (5 * x1)))) + x2))).toNat (w32 (((upS σ 66 5 2) 67 ((w32 ((w32 (156 + (w32 (5 * x1)))) + x2))).toNat) * (w32 x3)))) ∧ (Xr [lV v7] (upS (upS σ 66 5 2) 67 ((w32 ((w32 (156 + (w32 (5 * x1)))) + x2))).toNat (w32 (((upS σ 66 5 2) 67 ((w32 ((w32 (156 + (w32 (5 * x1)))) + x2))).toNat) * (w32 x3))))))))) else (∃ v8 : Int, C MX11_debt [rV 20 66, iV x1, iV x2] σ (.inl [iV v8]) σ ∧ (if (1000000000 : Int) < (w64 (v8 * x3)) then (if (0 : Int) < ((upS σ 66 5 3) 66 5) then (Xr [lV 0] (upS σ 66 5 3)) else ((0 ≤ (w32 ((w32 (156 + (w32 (5 * x1)))) + x2)) ∧ (w32 ((w32 (156 + (w32 (5 * x1)))) + x2)) < 181) ∧ ((0 ≤ (w32 ((w32 (156 + (w32 (5 * x1)))) + x2)) ∧ (w32 ((w32 (156 + (w32 (5 * x1)))) + x2)) < 181) ∧ (∃ v9 : Int, C MX11_debt [rV 20 66, iV x1, iV x2] (upS (upS σ 66 5 3) 67 ((w32 ((w32 (156 + (w32 (5 * x1)))) + x2))).toNat (w32 (((upS σ 66 5 3) 67 ((w32 ((w32 (156 + (w32 (5 * x1)))) + x2))).toNat) * (w32 x3)))) (.inl [iV v9]) (upS (upS σ 66 5 3) 67 ((w32 ((w32 (156 + (w32 (5 * x1)))) + x2))).toNat (w32 (((upS σ 66 5 3) 67 ((w32 ((w32 (156 + (w32 (5 * x1)))) + x2))).toNat) * (w32 x3)))) ∧ (Xr [lV v9] (upS (upS σ 66 5 3) 67 ((w32 ((w32 (156 + (w32 (5 * x1)))) + x2))).toNat (w32 (((upS σ 66 5 3) 67 ((w32 ((w32 (156 + (w32 (5 * x1)))) + x2))).toNat) * (w32 x3))))))))) else (if (0 : Int) < ((upS σ 66 5 0) 66 5) then (Xr [lV 0] (upS σ 66 5 0)) else ((0 ≤ (w32 ((w32 (156 + (w32 (5 * x1)))) + x2)) ∧ (w32 ((w32 (156 + (w32 (5 * x1)))) + x2)) < 181) ∧ ((0 ≤ (w32 ((w32 (156 + (w32 (5 * x1)))) + x2)) ∧ (w32 ((w32 (156 + (w32 (5 * x1)))) + x2)) < 181) ∧ (∃ v10 : Int, C MX11_debt [rV 20 66, iV x1, iV x2] (upS (upS σ 66 5 0) 67 ((w32 ((w32 (156 + (w32 (5 * x1)))) + x2))).toNat (w32 (((upS σ 66 5 0) 67 ((w32 ((w32 (156 + (w32 (5 * x1)))) + x2))).toNat) * (w32 x3)))) (.inl [iV v10]) (upS (upS σ 66 5 0) 67 ((w32 ((w32 (156 + (w32 (5 * x1)))) + x2))).toNat (w32 (((upS σ 66 5 0) 67 ((w32 ((w32 (156 + (w32 (5 * x1)))) + x2))).toNat) * (w32 x3)))) ∧ (Xr [lV v10] (upS (upS σ 66 5 0) 67 ((w32 ((w32 (156 + (w32 (5 * x1)))) + x2))).toNat (w32 (((upS σ 66 5 0) 67 ((w32 ((w32 (156 + (w32 (5 * x1)))) + x2))).toNat) * (w32 x3)))))))))))))))))) : X 0 [rV 20 66, iV x1, iV x2, lV x3, uV] [] σ := by
  refine st_aload_n (pc := 0) hC dX11_owe_0 rfl (by decide) (by decide) ?_
  refine st_aload_n (pc := 1) hC dX11_owe_1 rfl (by decide) (by decide) ?_
  refine st_iload_n (pc := 2) hC dX11_owe_2 rfl ?_
  refine st_i2l (pc := 3) hC dX11_owe_3 ?_
  obtain ⟨v1, hq, h⟩ := h
  refine st_invV (As := [lV x1]) (v := [iV v1]) (S := [rV 20 66]) (pc := 4) hC dX11_owe_4 cl_11_203 rfl rfl (Nat.le_of_ble_eq_true rfl) cr_X11_isPerson hq ?_
  refine st_if_eq (tg := 19) (pc := 7) hC dX11_owe_7 (by decide) (ite_im h (fun h => ?_) (fun h => ?_))
  · refine st_iconst (pc := 19) hC dX11_owe_19 (by decide) ?_
    refine st_goto (tg := 64) (pc := 20) hC dX11_owe_20 (by decide) ?_
    refine st_putfI (ci := 10) (f := 5) (pc := 64) hC dX11_owe_64 fl_11_64 rfl rfl ?_
    refine st_aload_n (pc := 67) hC dX11_owe_67 rfl (by decide) (by decide) ?_
    refine st_getf (ci := 10) (f := 5) (v := iV ((upS σ 66 5 1) 66 5)) (pc := 68) hC dX11_owe_68 fl_11_64 rfl rfl ?_
    refine st_if_le (tg := 76) (pc := 71) hC dX11_owe_71 (by decide) (ite_im h (fun h => ?_) (fun h => ?_))
    · refine st_lconst0 (pc := 74) hC dX11_owe_74 ?_
      exact st_lreturn (pc := 75) hC dX11_owe_75 h
    · refine st_aload_n (pc := 76) hC dX11_owe_76 rfl (by decide) (by decide) ?_
      refine st_getf (ci := 10) (f := 0) (v := rV 1000181 67) (pc := 77) hC dX11_owe_77 fl_11_9 rfl rfl ?_
      refine st_sipush (pc := 80) hC dX11_owe_80 (by decide) ?_
      refine st_iconst (pc := 83) hC dX11_owe_83 (by decide) ?_
      refine st_iload_n (pc := 84) hC dX11_owe_84 rfl ?_
      refine st_imul (pc := 85) hC dX11_owe_85 ?_
      refine st_iadd (pc := 86) hC dX11_owe_86 ?_
      refine st_iload_n (pc := 87) hC dX11_owe_87 rfl ?_
      refine st_iadd (pc := 88) hC dX11_owe_88 ?_
      refine st_dup2IR (pc := 89) hC dX11_owe_89 (by decide) (by decide) ?_
      obtain ⟨hb, h⟩ := h
      refine st_iald (n := 181) (pc := 90) hC dX11_owe_90 (by decide) hb ?_
      refine st_lload_n (pc := 91) hC dX11_owe_91 rfl ?_
      refine st_l2i (pc := 92) hC dX11_owe_92 ?_
      refine st_imul (pc := 93) hC dX11_owe_93 ?_
      obtain ⟨hb, h⟩ := h
      refine st_iast (n := 181) (pc := 94) hC dX11_owe_94 (by decide) hb ?_
      refine st_aload_n (pc := 95) hC dX11_owe_95 rfl (by decide) (by decide) ?_
      refine st_iload_n (pc := 96) hC dX11_owe_96 rfl ?_
      refine st_iload_n (pc := 97) hC dX11_owe_97 rfl ?_
      obtain ⟨v2, hq, h⟩ := h
      refine st_invV (As := [iV x1, iV x2]) (v := [iV v2]) (S := []) (pc := 98) hC dX11_owe_98 cl_11_371 rfl rfl (Nat.le_of_ble_eq_true rfl) cr_X11_debt hq ?_
      refine st_i2l (pc := 101) hC dX11_owe_101 ?_
      exact st_lreturn (pc := 102) hC dX11_owe_102 h
  · refine st_aload_n (pc := 10) hC dX11_owe_10 rfl (by decide) (by decide) ?_
    refine st_iload_n (pc := 11) hC dX11_owe_11 rfl ?_
    refine st_i2l (pc := 12) hC dX11_owe_12 ?_
    obtain ⟨v3, hq, h⟩ := h
    refine st_invV (As := [lV x2]) (v := [iV v3]) (S := [rV 20 66]) (pc := 13) hC dX11_owe_13 cl_11_203 rfl rfl (Nat.le_of_ble_eq_true rfl) cr_X11_isPerson hq ?_
    refine st_if_ne (tg := 23) (pc := 16) hC dX11_owe_16 (by decide) (ite_im h (fun h => ?_) (fun h => ?_))
    · refine st_iconst (pc := 19) hC dX11_owe_19 (by decide) ?_
      refine st_goto (tg := 64) (pc := 20) hC dX11_owe_20 (by decide) ?_
      refine st_putfI (ci := 10) (f := 5) (pc := 64) hC dX11_owe_64 fl_11_64 rfl rfl ?_
      refine st_aload_n (pc := 67) hC dX11_owe_67 rfl (by decide) (by decide) ?_
      refine st_getf (ci := 10) (f := 5) (v := iV ((upS σ 66 5 1) 66 5)) (pc := 68) hC dX11_owe_68 fl_11_64 rfl rfl ?_
      refine st_if_le (tg := 76) (pc := 71) hC dX11_owe_71 (by decide) (ite_im h (fun h => ?_) (fun h => ?_))
      · refine st_lconst0 (pc := 74) hC dX11_owe_74 ?_
        exact st_lreturn (pc := 75) hC dX11_owe_75 h
      · refine st_aload_n (pc := 76) hC dX11_owe_76 rfl (by decide) (by decide) ?_
        refine st_getf (ci := 10) (f := 0) (v := rV 1000181 67) (pc := 77) hC dX11_owe_77 fl_11_9 rfl rfl ?_
        refine st_sipush (pc := 80) hC dX11_owe_80 (by decide) ?_
        refine st_iconst (pc := 83) hC dX11_owe_83 (by decide) ?_
        refine st_iload_n (pc := 84) hC dX11_owe_84 rfl ?_
        refine st_imul (pc := 85) hC dX11_owe_85 ?_
        refine st_iadd (pc := 86) hC dX11_owe_86 ?_
        refine st_iload_n (pc := 87) hC dX11_owe_87 rfl ?_
        refine st_iadd (pc := 88) hC dX11_owe_88 ?_
        refine st_dup2IR (pc := 89) hC dX11_owe_89 (by decide) (by decide) ?_
        obtain ⟨hb, h⟩ := h
        refine st_iald (n := 181) (pc := 90) hC dX11_owe_90 (by decide) hb ?_
        refine st_lload_n (pc := 91) hC dX11_owe_91 rfl ?_
        refine st_l2i (pc := 92) hC dX11_owe_92 ?_
        refine st_imul (pc := 93) hC dX11_owe_93 ?_
        obtain ⟨hb, h⟩ := h
        refine st_iast (n := 181) (pc := 94) hC dX11_owe_94 (by decide) hb ?_
        refine st_aload_n (pc := 95) hC dX11_owe_95 rfl (by decide) (by decide) ?_
        refine st_iload_n (pc := 96) hC dX11_owe_96 rfl ?_
        refine st_iload_n (pc := 97) hC dX11_owe_97 rfl ?_
        obtain ⟨v4, hq, h⟩ := h
        refine st_invV (As := [iV x1, iV x2]) (v := [iV v4]) (S := []) (pc := 98) hC dX11_owe_98 cl_11_371 rfl rfl (Nat.le_of_ble_eq_true rfl) cr_X11_debt hq ?_
        refine st_i2l (pc := 101) hC dX11_owe_101 ?_
        exact st_lreturn (pc := 102) hC dX11_owe_102 h
    · refine st_iload_n (pc := 23) hC dX11_owe_23 rfl ?_
      refine st_iload_n (pc := 24) hC dX11_owe_24 rfl ?_
      refine st_icmp_eq (tg := 39) (pc := 25) hC dX11_owe_25 (by decide) (ite_im h (fun h => ?_) (fun h => ?_))
      · refine st_iconst (pc := 39) hC dX11_owe_39 (by decide) ?_
        refine st_goto (tg := 64) (pc := 40) hC dX11_owe_40 (by decide) ?_
        refine st_putfI (ci := 10) (f := 5) (pc := 64) hC dX11_owe_64 fl_11_64 rfl rfl ?_
        refine st_aload_n (pc := 67) hC dX11_owe_67 rfl (by decide) (by decide) ?_
        refine st_getf (ci := 10) (f := 5) (v := iV ((upS σ 66 5 2) 66 5)) (pc := 68) hC dX11_owe_68 fl_11_64 rfl rfl ?_
        refine st_if_le (tg := 76) (pc := 71) hC dX11_owe_71 (by decide) (ite_im h (fun h => ?_) (fun h => ?_))
        · refine st_lconst0 (pc := 74) hC dX11_owe_74 ?_
          exact st_lreturn (pc := 75) hC dX11_owe_75 h
        · refine st_aload_n (pc := 76) hC dX11_owe_76 rfl (by decide) (by decide) ?_
          refine st_getf (ci := 10) (f := 0) (v := rV 1000181 67) (pc := 77) hC dX11_owe_77 fl_11_9 rfl rfl ?_
          refine st_sipush (pc := 80) hC dX11_owe_80 (by decide) ?_
          refine st_iconst (pc := 83) hC dX11_owe_83 (by decide) ?_
          refine st_iload_n (pc := 84) hC dX11_owe_84 rfl ?_
          refine st_imul (pc := 85) hC dX11_owe_85 ?_
          refine st_iadd (pc := 86) hC dX11_owe_86 ?_
          refine st_iload_n (pc := 87) hC dX11_owe_87 rfl ?_
          refine st_iadd (pc := 88) hC dX11_owe_88 ?_
          refine st_dup2IR (pc := 89) hC dX11_owe_89 (by decide) (by decide) ?_
          obtain ⟨hb, h⟩ := h
          refine st_iald (n := 181) (pc := 90) hC dX11_owe_90 (by decide) hb ?_
          refine st_lload_n (pc := 91) hC dX11_owe_91 rfl ?_
          refine st_l2i (pc := 92) hC dX11_owe_92 ?_
          refine st_imul (pc := 93) hC dX11_owe_93 ?_
          obtain ⟨hb, h⟩ := h
          refine st_iast (n := 181) (pc := 94) hC dX11_owe_94 (by decide) hb ?_
          refine st_aload_n (pc := 95) hC dX11_owe_95 rfl (by decide) (by decide) ?_
          refine st_iload_n (pc := 96) hC dX11_owe_96 rfl ?_
          refine st_iload_n (pc := 97) hC dX11_owe_97 rfl ?_
          obtain ⟨v5, hq, h⟩ := h
          refine st_invV (As := [iV x1, iV x2]) (v := [iV v5]) (S := []) (pc := 98) hC dX11_owe_98 cl_11_371 rfl rfl (Nat.le_of_ble_eq_true rfl) cr_X11_debt hq ?_
          refine st_i2l (pc := 101) hC dX11_owe_101 ?_
          exact st_lreturn (pc := 102) hC dX11_owe_102 h
      · refine st_lload_n (pc := 28) hC dX11_owe_28 rfl ?_
        refine st_lconst1 (pc := 29) hC dX11_owe_29 ?_
        refine st_ldc2 (pc := 30) hC dX11_owe_30 rfl ?_
        obtain ⟨v6, hq, h⟩ := h
        refine st_invS (As := [lV x3, lV 1, lV 1000000]) (v := [iV v6]) (S := [rV 20 66]) (pc := 33) hC dX11_owe_33 cl_11_133 rfl rfl (Nat.le_of_ble_eq_true rfl) hq ?_
        refine st_if_ne (tg := 43) (pc := 36) hC dX11_owe_36 (by decide) (ite_im h (fun h => ?_) (fun h => ?_))
        · refine st_iconst (pc := 39) hC dX11_owe_39 (by decide) ?_
          refine st_goto (tg := 64) (pc := 40) hC dX11_owe_40 (by decide) ?_
          refine st_putfI (ci := 10) (f := 5) (pc := 64) hC dX11_owe_64 fl_11_64 rfl rfl ?_
          refine st_aload_n (pc := 67) hC dX11_owe_67 rfl (by decide) (by decide) ?_
          refine st_getf (ci := 10) (f := 5) (v := iV ((upS σ 66 5 2) 66 5)) (pc := 68) hC dX11_owe_68 fl_11_64 rfl rfl ?_
          refine st_if_le (tg := 76) (pc := 71) hC dX11_owe_71 (by decide) (ite_im h (fun h => ?_) (fun h => ?_))
          · refine st_lconst0 (pc := 74) hC dX11_owe_74 ?_
            exact st_lreturn (pc := 75) hC dX11_owe_75 h
          · refine st_aload_n (pc := 76) hC dX11_owe_76 rfl (by decide) (by decide) ?_
            refine st_getf (ci := 10) (f := 0) (v := rV 1000181 67) (pc := 77) hC dX11_owe_77 fl_11_9 rfl rfl ?_
            refine st_sipush (pc := 80) hC dX11_owe_80 (by decide) ?_
            refine st_iconst (pc := 83) hC dX11_owe_83 (by decide) ?_
            refine st_iload_n (pc := 84) hC dX11_owe_84 rfl ?_
            refine st_imul (pc := 85) hC dX11_owe_85 ?_
            refine st_iadd (pc := 86) hC dX11_owe_86 ?_
            refine st_iload_n (pc := 87) hC dX11_owe_87 rfl ?_
            refine st_iadd (pc := 88) hC dX11_owe_88 ?_
            refine st_dup2IR (pc := 89) hC dX11_owe_89 (by decide) (by decide) ?_
            obtain ⟨hb, h⟩ := h
            refine st_iald (n := 181) (pc := 90) hC dX11_owe_90 (by decide) hb ?_
            refine st_lload_n (pc := 91) hC dX11_owe_91 rfl ?_
            refine st_l2i (pc := 92) hC dX11_owe_92 ?_
            refine st_imul (pc := 93) hC dX11_owe_93 ?_
            obtain ⟨hb, h⟩ := h
            refine st_iast (n := 181) (pc := 94) hC dX11_owe_94 (by decide) hb ?_
            refine st_aload_n (pc := 95) hC dX11_owe_95 rfl (by decide) (by decide) ?_
            refine st_iload_n (pc := 96) hC dX11_owe_96 rfl ?_
            refine st_iload_n (pc := 97) hC dX11_owe_97 rfl ?_
            obtain ⟨v7, hq, h⟩ := h
            refine st_invV (As := [iV x1, iV x2]) (v := [iV v7]) (S := []) (pc := 98) hC dX11_owe_98 cl_11_371 rfl rfl (Nat.le_of_ble_eq_true rfl) cr_X11_debt hq ?_
            refine st_i2l (pc := 101) hC dX11_owe_101 ?_
            exact st_lreturn (pc := 102) hC dX11_owe_102 h
        · refine st_aload_n (pc := 43) hC dX11_owe_43 rfl (by decide) (by decide) ?_
          refine st_iload_n (pc := 44) hC dX11_owe_44 rfl ?_
          refine st_iload_n (pc := 45) hC dX11_owe_45 rfl ?_
          obtain ⟨v8, hq, h⟩ := h
          refine st_invV (As := [iV x1, iV x2]) (v := [iV v8]) (S := [rV 20 66]) (pc := 46) hC dX11_owe_46 cl_11_371 rfl rfl (Nat.le_of_ble_eq_true rfl) cr_X11_debt hq ?_
          refine st_i2l (pc := 49) hC dX11_owe_49 ?_
          refine st_lload_n (pc := 50) hC dX11_owe_50 rfl ?_
          refine st_lmul (pc := 51) hC dX11_owe_51 ?_
          refine st_ldc2 (pc := 52) hC dX11_owe_52 rfl ?_
          refine st_lcmp_le (tg := 63) (pc := 55) hC dX11_owe_55 dX11_owe_56 (by decide) (ite_im h (fun h => ?_) (fun h => ?_))
          · refine st_iconst (pc := 59) hC dX11_owe_59 (by decide) ?_
            refine st_goto (tg := 64) (pc := 60) hC dX11_owe_60 (by decide) ?_
            refine st_putfI (ci := 10) (f := 5) (pc := 64) hC dX11_owe_64 fl_11_64 rfl rfl ?_
            refine st_aload_n (pc := 67) hC dX11_owe_67 rfl (by decide) (by decide) ?_
            refine st_getf (ci := 10) (f := 5) (v := iV ((upS σ 66 5 3) 66 5)) (pc := 68) hC dX11_owe_68 fl_11_64 rfl rfl ?_
            refine st_if_le (tg := 76) (pc := 71) hC dX11_owe_71 (by decide) (ite_im h (fun h => ?_) (fun h => ?_))
            · refine st_lconst0 (pc := 74) hC dX11_owe_74 ?_
              exact st_lreturn (pc := 75) hC dX11_owe_75 h
            · refine st_aload_n (pc := 76) hC dX11_owe_76 rfl (by decide) (by decide) ?_
              refine st_getf (ci := 10) (f := 0) (v := rV 1000181 67) (pc := 77) hC dX11_owe_77 fl_11_9 rfl rfl ?_
              refine st_sipush (pc := 80) hC dX11_owe_80 (by decide) ?_
              refine st_iconst (pc := 83) hC dX11_owe_83 (by decide) ?_
              refine st_iload_n (pc := 84) hC dX11_owe_84 rfl ?_
              refine st_imul (pc := 85) hC dX11_owe_85 ?_
              refine st_iadd (pc := 86) hC dX11_owe_86 ?_
              refine st_iload_n (pc := 87) hC dX11_owe_87 rfl ?_
              refine st_iadd (pc := 88) hC dX11_owe_88 ?_
              refine st_dup2IR (pc := 89) hC dX11_owe_89 (by decide) (by decide) ?_
              obtain ⟨hb, h⟩ := h
              refine st_iald (n := 181) (pc := 90) hC dX11_owe_90 (by decide) hb ?_
              refine st_lload_n (pc := 91) hC dX11_owe_91 rfl ?_
              refine st_l2i (pc := 92) hC dX11_owe_92 ?_
              refine st_imul (pc := 93) hC dX11_owe_93 ?_
              obtain ⟨hb, h⟩ := h
              refine st_iast (n := 181) (pc := 94) hC dX11_owe_94 (by decide) hb ?_
              refine st_aload_n (pc := 95) hC dX11_owe_95 rfl (by decide) (by decide) ?_
              refine st_iload_n (pc := 96) hC dX11_owe_96 rfl ?_
              refine st_iload_n (pc := 97) hC dX11_owe_97 rfl ?_
              obtain ⟨v9, hq, h⟩ := h
              refine st_invV (As := [iV x1, iV x2]) (v := [iV v9]) (S := []) (pc := 98) hC dX11_owe_98 cl_11_371 rfl rfl (Nat.le_of_ble_eq_true rfl) cr_X11_debt hq ?_
              refine st_i2l (pc := 101) hC dX11_owe_101 ?_
              exact st_lreturn (pc := 102) hC dX11_owe_102 h
          · refine st_iconst (pc := 63) hC dX11_owe_63 (by decide) ?_
            refine st_putfI (ci := 10) (f := 5) (pc := 64) hC dX11_owe_64 fl_11_64 rfl rfl ?_
            refine st_aload_n (pc := 67) hC dX11_owe_67 rfl (by decide) (by decide) ?_
            refine st_getf (ci := 10) (f := 5) (v := iV ((upS σ 66 5 0) 66 5)) (pc := 68) hC dX11_owe_68 fl_11_64 rfl rfl ?_
            refine st_if_le (tg := 76) (pc := 71) hC dX11_owe_71 (by decide) (ite_im h (fun h => ?_) (fun h => ?_))
            · refine st_lconst0 (pc := 74) hC dX11_owe_74 ?_
              exact st_lreturn (pc := 75) hC dX11_owe_75 h
            · refine st_aload_n (pc := 76) hC dX11_owe_76 rfl (by decide) (by decide) ?_
              refine st_getf (ci := 10) (f := 0) (v := rV 1000181 67) (pc := 77) hC dX11_owe_77 fl_11_9 rfl rfl ?_
              refine st_sipush (pc := 80) hC dX11_owe_80 (by decide) ?_
              refine st_iconst (pc := 83) hC dX11_owe_83 (by decide) ?_
              refine st_iload_n (pc := 84) hC dX11_owe_84 rfl ?_
              refine st_imul (pc := 85) hC dX11_owe_85 ?_
              refine st_iadd (pc := 86) hC dX11_owe_86 ?_
              refine st_iload_n (pc := 87) hC dX11_owe_87 rfl ?_
              refine st_iadd (pc := 88) hC dX11_owe_88 ?_
              refine st_dup2IR (pc := 89) hC dX11_owe_89 (by decide) (by decide) ?_
              obtain ⟨hb, h⟩ := h
              refine st_iald (n := 181) (pc := 90) hC dX11_owe_90 (by decide) hb ?_
              refine st_lload_n (pc := 91) hC dX11_owe_91 rfl ?_
              refine st_l2i (pc := 92) hC dX11_owe_92 ?_
              refine st_imul (pc := 93) hC dX11_owe_93 ?_
              obtain ⟨hb, h⟩ := h
              refine st_iast (n := 181) (pc := 94) hC dX11_owe_94 (by decide) hb ?_
              refine st_aload_n (pc := 95) hC dX11_owe_95 rfl (by decide) (by decide) ?_
              refine st_iload_n (pc := 96) hC dX11_owe_96 rfl ?_
              refine st_iload_n (pc := 97) hC dX11_owe_97 rfl ?_
              obtain ⟨v10, hq, h⟩ := h
              refine st_invV (As := [iV x1, iV x2]) (v := [iV v10]) (S := []) (pc := 98) hC dX11_owe_98 cl_11_371 rfl rfl (Nat.le_of_ble_eq_true rfl) cr_X11_debt hq ?_
              refine st_i2l (pc := 101) hC dX11_owe_101 ?_
              exact st_lreturn (pc := 102) hC dX11_owe_102 h
theorem bX11_owed_0 {C : Nat → List Vv → Sg → Rs → Sg → Prop} {X : Nat → List Vv → List Vv → Sg → Prop} {Xr : List Vv → Sg → Prop} {Xt : Nat → Sg → Prop} (hC : Clo C 11 cX11_owed (some .long) X Xr Xt) {x1 x2 : Int} {σ : Sg} (h : ∃ v1 : Int, C MX11_isPerson [rV 20 66, lV x1] (upS σ 66 5 0) (.inl [iV v1]) (upS σ 66 5 0) ∧ (if v1 = 0 then (∃ v2 : Int, ∃ σ2 : Sg, C MX11_fails [rV 20 66, iV 1] (upS σ 66 5 0) (.inl [iV v2]) σ2 ∧ (Xr [lV v2] σ2)) else (∃ v3 : Int, C MX11_isPerson [rV 20 66, lV x2] (upS σ 66 5 0) (.inl [iV v3]) (upS σ 66 5 0) ∧ (if v3 = 0 then (∃ v4 : Int, ∃ σ4 : Sg, C MX11_fails [rV 20 66, iV 1] (upS σ 66 5 0) (.inl [iV v4]) σ4 ∧ (Xr [lV v4] σ4)) else (∃ v5 : Int, C MX11_debt [rV 20 66, iV x1, iV x2] (upS σ 66 5 0) (.inl [iV v5]) (upS σ 66 5 0) ∧ (Xr [lV v5] (upS σ 66 5 0))))))) : X 0 [rV 20 66, iV x1, iV x2] [] σ := by
  refine st_aload_n (pc := 0) hC dX11_owed_0 rfl (by decide) (by decide) ?_
  refine st_iconst (pc := 1) hC dX11_owed_1 (by decide) ?_
  refine st_putfI (ci := 10) (f := 5) (pc := 2) hC dX11_owed_2 fl_11_64 rfl rfl ?_
  refine st_aload_n (pc := 5) hC dX11_owed_5 rfl (by decide) (by decide) ?_
  refine st_iload_n (pc := 6) hC dX11_owed_6 rfl ?_
  refine st_i2l (pc := 7) hC dX11_owed_7 ?_
  obtain ⟨v1, hq, h⟩ := h
  refine st_invV (As := [lV x1]) (v := [iV v1]) (S := []) (pc := 8) hC dX11_owed_8 cl_11_203 rfl rfl (Nat.le_of_ble_eq_true rfl) cr_X11_isPerson hq ?_
  refine st_if_eq (tg := 33) (pc := 11) hC dX11_owed_11 (by decide) (ite_im h (fun h => ?_) (fun h => ?_))
  · refine st_aload_n (pc := 33) hC dX11_owed_33 rfl (by decide) (by decide) ?_
    refine st_iconst (pc := 34) hC dX11_owed_34 (by decide) ?_
    obtain ⟨v2, σ2, hq, h⟩ := h
    refine st_invV (As := [iV 1]) (v := [iV v2]) (S := []) (pc := 35) hC dX11_owed_35 cl_11_178 rfl rfl (Nat.le_of_ble_eq_true rfl) cr_X11_fails hq ?_
    refine st_i2l (pc := 38) hC dX11_owed_38 ?_
    exact st_lreturn (pc := 39) hC dX11_owed_39 h
  · refine st_aload_n (pc := 14) hC dX11_owed_14 rfl (by decide) (by decide) ?_
    refine st_iload_n (pc := 15) hC dX11_owed_15 rfl ?_
    refine st_i2l (pc := 16) hC dX11_owed_16 ?_
    obtain ⟨v3, hq, h⟩ := h
    refine st_invV (As := [lV x2]) (v := [iV v3]) (S := []) (pc := 17) hC dX11_owed_17 cl_11_203 rfl rfl (Nat.le_of_ble_eq_true rfl) cr_X11_isPerson hq ?_
    refine st_if_eq (tg := 33) (pc := 20) hC dX11_owed_20 (by decide) (ite_im h (fun h => ?_) (fun h => ?_))
    · refine st_aload_n (pc := 33) hC dX11_owed_33 rfl (by decide) (by decide) ?_
      refine st_iconst (pc := 34) hC dX11_owed_34 (by decide) ?_
      obtain ⟨v4, σ4, hq, h⟩ := h
      refine st_invV (As := [iV 1]) (v := [iV v4]) (S := []) (pc := 35) hC dX11_owed_35 cl_11_178 rfl rfl (Nat.le_of_ble_eq_true rfl) cr_X11_fails hq ?_
      refine st_i2l (pc := 38) hC dX11_owed_38 ?_
      exact st_lreturn (pc := 39) hC dX11_owed_39 h
    · refine st_aload_n (pc := 23) hC dX11_owed_23 rfl (by decide) (by decide) ?_
      refine st_iload_n (pc := 24) hC dX11_owed_24 rfl ?_
      refine st_iload_n (pc := 25) hC dX11_owed_25 rfl ?_
      obtain ⟨v5, hq, h⟩ := h
      refine st_invV (As := [iV x1, iV x2]) (v := [iV v5]) (S := []) (pc := 26) hC dX11_owed_26 cl_11_371 rfl rfl (Nat.le_of_ble_eq_true rfl) cr_X11_debt hq ?_
      refine st_i2l (pc := 29) hC dX11_owed_29 ?_
      refine st_goto (tg := 39) (pc := 30) hC dX11_owed_30 (by decide) ?_
      exact st_lreturn (pc := 39) hC dX11_owed_39 h
theorem bX11_strikes_0 {C : Nat → List Vv → Sg → Rs → Sg → Prop} {X : Nat → List Vv → List Vv → Sg → Prop} {Xr : List Vv → Sg → Prop} {Xt : Nat → Sg → Prop} (hC : Clo C 11 cX11_strikes (some .boolean) X Xr Xt) {x1 x2 x3 : Int} {σ : Sg} (h : if x3 = (-1) then (∃ v1 : Int, C MX11_debt [rV 20 66, iV x1, iV x2] σ (.inl [iV v1]) σ ∧ (if x3 = (-1) then (∃ v2 : Int, C MX11_debt [rV 20 66, iV x2, iV x1] σ (.inl [iV v2]) σ ∧ (∃ v3 : Int, C MX11_shared [lV v1, lV v1] σ (.inl [lV v3]) σ ∧ (∃ v4 : Int, C MX11_shared [lV v3, lV v2] σ (.inl [lV v4]) σ ∧ (if (w32 v4) < 2 then (Xr [iV 0] σ) else ((0 ≤ (w32 ((w32 (156 + (w32 (5 * x1)))) + x2)) ∧ (w32 ((w32 (156 + (w32 (5 * x1)))) + x2)) < 181) ∧ ((w32 v4) ≠ 0 ∧ ((0 ≤ (w32 ((w32 (156 + (w32 (5 * x1)))) + x2)) ∧ (w32 ((w32 (156 + (w32 (5 * x1)))) + x2)) < 181) ∧ (if x3 = (-1) then ((0 ≤ (w32 ((w32 (156 + (w32 (5 * x2)))) + x1)) ∧ (w32 ((w32 (156 + (w32 (5 * x2)))) + x1)) < 181) ∧ ((w32 v4) ≠ 0 ∧ ((0 ≤ (w32 ((w32 (156 + (w32 (5 * x2)))) + x1)) ∧ (w32 ((w32 (156 + (w32 (5 * x2)))) + x1)) < 181) ∧ (Xr [iV 1] (upS (upS σ 67 ((w32 ((w32 (156 + (w32 (5 * x1)))) + x2))).toNat (w32 ((σ 67 ((w32 ((w32 (156 + (w32 (5 * x1)))) + x2))).toNat).tdiv (w32 v4)))) 67 ((w32 ((w32 (156 + (w32 (5 * x2)))) + x1))).toNat (w32 (((upS σ 67 ((w32 ((w32 (156 + (w32 (5 * x1)))) + x2))).toNat (w32 ((σ 67 ((w32 ((w32 (156 + (w32 (5 * x1)))) + x2))).toNat).tdiv (w32 v4)))) 67 ((w32 ((w32 (156 + (w32 (5 * x2)))) + x1))).toNat).tdiv (w32 v4)))))))) else ((0 ≤ (w32 ((w32 (156 + (w32 (5 * x2)))) + x3)) ∧ (w32 ((w32 (156 + (w32 (5 * x2)))) + x3)) < 181) ∧ ((w32 v4) ≠ 0 ∧ ((0 ≤ (w32 ((w32 (156 + (w32 (5 * x2)))) + x3)) ∧ (w32 ((w32 (156 + (w32 (5 * x2)))) + x3)) < 181) ∧ ((0 ≤ (w32 ((w32 (156 + (w32 (5 * x2)))) + x1)) ∧ (w32 ((w32 (156 + (w32 (5 * x2)))) + x1)) < 181) ∧ ((w32 v4) ≠ 0 ∧ ((0 ≤ (w32 ((w32 (156 + (w32 (5 * x2)))) + x1)) ∧ (w32 ((w32 (156 + (w32 (5 * x2)))) + x1)) < 181) ∧ (Xr [iV 1] (upS (upS (upS σ 67 ((w32 ((w32 (156 + (w32 (5 * x1)))) + x2))).toNat (w32 ((σ 67 ((w32 ((w32 (156 + (w32 (5 * x1)))) + x2))).toNat).tdiv (w32 v4)))) 67 ((w32 ((w32 (156 + (w32 (5 * x2)))) + x3))).toNat (w32 (((upS σ 67 ((w32 ((w32 (156 + (w32 (5 * x1)))) + x2))).toNat (w32 ((σ 67 ((w32 ((w32 (156 + (w32 (5 * x1)))) + x2))).toNat).tdiv (w32 v4)))) 67 ((w32 ((w32 (156 + (w32 (5 * x2)))) + x3))).toNat).tdiv (w32 v4)))) 67 ((w32 ((w32 (156 + (w32 (5 * x2)))) + x1))).toNat (w32 (((upS (upS σ 67 ((w32 ((w32 (156 + (w32 (5 * x1)))) + x2))).toNat (w32 ((σ 67 ((w32 ((w32 (156 + (w32 (5 * x1)))) + x2))).toNat).tdiv (w32 v4)))) 67 ((w32 ((w32 (156 + (w32 (5 * x2)))) + x3))).toNat (w32 (((upS σ 67 ((w32 ((w32 (156 + (w32 (5 * x1)))) + x2))).toNat (w32 ((σ 67 ((w32 ((w32 (156 + (w32 (5 * x1)))) + x2))).toNat).tdiv (w32 v4)))) 67 ((w32 ((w32 (156 + (w32 (5 * x2)))) + x3))).toNat).tdiv (w32 v4)))) 67 ((w32 ((w32 (156 + (w32 (5 * x2)))) + x1))).toNat).tdiv (w32 v4))))))))))))))))))) else (∃ v5 : Int, C MX11_debt [rV 20 66, iV x2, iV x3] σ (.inl [iV v5]) σ ∧ (∃ v6 : Int, C MX11_debt [rV 20 66, iV x2, iV x1] σ (.inl [iV v6]) σ ∧ (∃ v7 : Int, C MX11_shared [lV v1, lV v5] σ (.inl [lV v7]) σ ∧ (∃ v8 : Int, C MX11_shared [lV v7, lV v6] σ (.inl [lV v8]) σ ∧ (if (w32 v8) < 2 then (Xr [iV 0] σ) else ((0 ≤ (w32 ((w32 (156 + (w32 (5 * x1)))) + x2)) ∧ (w32 ((w32 (156 + (w32 (5 * x1)))) + x2)) < 181) ∧ ((w32 v8) ≠ 0 ∧ ((0 ≤ (w32 ((w32 (156 + (w32 (5 * x1)))) + x2)) ∧ (w32 ((w32 (156 + (w32 (5 * x1)))) + x2)) < 181) ∧ (if x3 = (-1) then ((0 ≤ (w32 ((w32 (156 + (w32 (5 * x2)))) + x1)) ∧ (w32 ((w32 (156 + (w32 (5 * x2)))) + x1)) < 181) ∧ ((w32 v8) ≠ 0 ∧ ((0 ≤ (w32 ((w32 (156 + (w32 (5 * x2)))) + x1)) ∧ (w32 ((w32 (156 + (w32 (5 * x2)))) + x1)) < 181) ∧ (Xr [iV 1] (upS (upS σ 67 ((w32 ((w32 (156 + (w32 (5 * x1)))) + x2))).toNat (w32 ((σ 67 ((w32 ((w32 (156 + (w32 (5 * x1)))) + x2))).toNat).tdiv (w32 v8)))) 67 ((w32 ((w32 (156 + (w32 (5 * x2)))) + x1))).toNat (w32 (((upS σ 67 ((w32 ((w32 (156 + (w32 (5 * x1)))) + x2))).toNat (w32 ((σ 67 ((w32 ((w32 (156 + (w32 (5 * x1)))) + x2))).toNat).tdiv (w32 v8)))) 67 ((w32 ((w32 (156 + (w32 (5 * x2)))) + x1))).toNat).tdiv (w32 v8)))))))) else ((0 ≤ (w32 ((w32 (156 + (w32 (5 * x2)))) + x3)) ∧ (w32 ((w32 (156 + (w32 (5 * x2)))) + x3)) < 181) ∧ ((w32 v8) ≠ 0 ∧ ((0 ≤ (w32 ((w32 (156 + (w32 (5 * x2)))) + x3)) ∧ (w32 ((w32 (156 + (w32 (5 * x2)))) + x3)) < 181) ∧ ((0 ≤ (w32 ((w32 (156 + (w32 (5 * x2)))) + x1)) ∧ (w32 ((w32 (156 + (w32 (5 * x2)))) + x1)) < 181) ∧ ((w32 v8) ≠ 0 ∧ ((0 ≤ (w32 ((w32 (156 + (w32 (5 * x2)))) + x1)) ∧ (w32 ((w32 (156 + (w32 (5 * x2)))) + x1)) < 181) ∧ (Xr [iV 1] (upS (upS (upS σ 67 ((w32 ((w32 (156 + (w32 (5 * x1)))) + x2))).toNat (w32 ((σ 67 ((w32 ((w32 (156 + (w32 (5 * x1)))) + x2))).toNat).tdiv (w32 v8)))) 67 ((w32 ((w32 (156 + (w32 (5 * x2)))) + x3))).toNat (w32 (((upS σ 67 ((w32 ((w32 (156 + (w32 (5 * x1)))) + x2))).toNat (w32 ((σ 67 ((w32 ((w32 (156 + (w32 (5 * x1)))) + x2))).toNat).tdiv (w32 v8)))) 67 ((w32 ((w32 (156 + (w32 (5 * x2)))) + x3))).toNat).tdiv (w32 v8)))) 67 ((w32 ((w32 (156 + (w32 (5 * x2)))) + x1))).toNat (w32 (((upS (upS σ 67 ((w32 ((w32 (156 + (w32 (5 * x1)))) + x2))).toNat (w32 ((σ 67 ((w32 ((w32 (156 + (w32 (5 * x1)))) + x2))).toNat).tdiv (w32 v8)))) 67 ((w32 ((w32 (156 + (w32 (5 * x2)))) + x3))).toNat (w32 (((upS σ 67 ((w32 ((w32 (156 + (w32 (5 * x1)))) + x2))).toNat (w32 ((σ 67 ((w32 ((w32 (156 + (w32 (5 * x1)))) + x2))).toNat).tdiv (w32 v8)))) 67 ((w32 ((w32 (156 + (w32 (5 * x2)))) + x3))).toNat).tdiv (w32 v8)))) 67 ((w32 ((w32 (156 + (w32 (5 * x2)))) + x1))).toNat).tdiv (w32 v8)))))))))))))))))))))) else (∃ v9 : Int, C MX11_debt [rV 20 66, iV x1, iV x2] σ (.inl [iV v9]) σ ∧ (if x3 = (-1) then (∃ v10 : Int, C MX11_debt [rV 20 66, iV x3, iV x1] σ (.inl [iV v10]) σ ∧ (∃ v11 : Int, C MX11_shared [lV v9, lV v9] σ (.inl [lV v11]) σ ∧ (∃ v12 : Int, C MX11_shared [lV v11, lV v10] σ (.inl [lV v12]) σ ∧ (if (w32 v12) < 2 then (Xr [iV 0] σ) else ((0 ≤ (w32 ((w32 (156 + (w32 (5 * x1)))) + x2)) ∧ (w32 ((w32 (156 + (w32 (5 * x1)))) + x2)) < 181) ∧ ((w32 v12) ≠ 0 ∧ ((0 ≤ (w32 ((w32 (156 + (w32 (5 * x1)))) + x2)) ∧ (w32 ((w32 (156 + (w32 (5 * x1)))) + x2)) < 181) ∧ (if x3 = (-1) then ((0 ≤ (w32 ((w32 (156 + (w32 (5 * x3)))) + x1)) ∧ (w32 ((w32 (156 + (w32 (5 * x3)))) + x1)) < 181) ∧ ((w32 v12) ≠ 0 ∧ ((0 ≤ (w32 ((w32 (156 + (w32 (5 * x3)))) + x1)) ∧ (w32 ((w32 (156 + (w32 (5 * x3)))) + x1)) < 181) ∧ (Xr [iV 1] (upS (upS σ 67 ((w32 ((w32 (156 + (w32 (5 * x1)))) + x2))).toNat (w32 ((σ 67 ((w32 ((w32 (156 + (w32 (5 * x1)))) + x2))).toNat).tdiv (w32 v12)))) 67 ((w32 ((w32 (156 + (w32 (5 * x3)))) + x1))).toNat (w32 (((upS σ 67 ((w32 ((w32 (156 + (w32 (5 * x1)))) + x2))).toNat (w32 ((σ 67 ((w32 ((w32 (156 + (w32 (5 * x1)))) + x2))).toNat).tdiv (w32 v12)))) 67 ((w32 ((w32 (156 + (w32 (5 * x3)))) + x1))).toNat).tdiv (w32 v12)))))))) else ((0 ≤ (w32 ((w32 (156 + (w32 (5 * x2)))) + x3)) ∧ (w32 ((w32 (156 + (w32 (5 * x2)))) + x3)) < 181) ∧ ((w32 v12) ≠ 0 ∧ ((0 ≤ (w32 ((w32 (156 + (w32 (5 * x2)))) + x3)) ∧ (w32 ((w32 (156 + (w32 (5 * x2)))) + x3)) < 181) ∧ ((0 ≤ (w32 ((w32 (156 + (w32 (5 * x3)))) + x1)) ∧ (w32 ((w32 (156 + (w32 (5 * x3)))) + x1)) < 181) ∧ ((w32 v12) ≠ 0 ∧ ((0 ≤ (w32 ((w32 (156 + (w32 (5 * x3)))) + x1)) ∧ (w32 ((w32 (156 + (w32 (5 * x3)))) + x1)) < 181) ∧ (Xr [iV 1] (upS (upS (upS σ 67 ((w32 ((w32 (156 + (w32 (5 * x1)))) + x2))).toNat (w32 ((σ 67 ((w32 ((w32 (156 + (w32 (5 * x1)))) + x2))).toNat).tdiv (w32 v12)))) 67 ((w32 ((w32 (156 + (w32 (5 * x2)))) + x3))).toNat (w32 (((upS σ 67 ((w32 ((w32 (156 + (w32 (5 * x1)))) + x2))).toNat (w32 ((σ 67 ((w32 ((w32 (156 + (w32 (5 * x1)))) + x2))).toNat).tdiv (w32 v12)))) 67 ((w32 ((w32 (156 + (w32 (5 * x2)))) + x3))).toNat).tdiv (w32 v12)))) 67 ((w32 ((w32 (156 + (w32 (5 * x3)))) + x1))).toNat (w32 (((upS (upS σ 67 ((w32 ((w32 (156 + (w32 (5 * x1)))) + x2))).toNat (w32 ((σ 67 ((w32 ((w32 (156 + (w32 (5 * x1)))) + x2))).toNat).tdiv (w32 v12)))) 67 ((w32 ((w32 (156 + (w32 (5 * x2)))) + x3))).toNat (w32 (((upS σ 67 ((w32 ((w32 (156 + (w32 (5 * x1)))) + x2))).toNat (w32 ((σ 67 ((w32 ((w32 (156 + (w32 (5 * x1)))) + x2))).toNat).tdiv (w32 v12)))) 67 ((w32 ((w32 (156 + (w32 (5 * x2)))) + x3))).toNat).tdiv (w32 v12)))) 67 ((w32 ((w32 (156 + (w32 (5 * x3)))) + x1))).toNat).tdiv (w32 v12))))))))))))))))))) else (∃ v13 : Int, C MX11_debt [rV 20 66, iV x2, iV x3] σ (.inl [iV v13]) σ ∧ (∃ v14 : Int, C MX11_debt [rV 20 66, iV x3, iV x1] σ (.inl [iV v14]) σ ∧ (∃ v15 : Int, C MX11_shared [lV v9, lV v13] σ (.inl [lV v15]) σ ∧ (∃ v16 : Int, C MX11_shared [lV v15, lV v14] σ (.inl [lV v16]) σ ∧ (if (w32 v16) < 2 then (Xr [iV 0] σ) else ((0 ≤ (w32 ((w32 (156 + (w32 (5 * x1)))) + x2)) ∧ (w32 ((w32 (156 + (w32 (5 * x1)))) + x2)) < 181) ∧ ((w32 v16) ≠ 0 ∧ ((0 ≤ (w32 ((w32 (156 + (w32 (5 * x1)))) + x2)) ∧ (w32 ((w32 (156 + (w32 (5 * x1)))) + x2)) < 181) ∧ (if x3 = (-1) then ((0 ≤ (w32 ((w32 (156 + (w32 (5 * x3)))) + x1)) ∧ (w32 ((w32 (156 + (w32 (5 * x3)))) + x1)) < 181) ∧ ((w32 v16) ≠ 0 ∧ ((0 ≤ (w32 ((w32 (156 + (w32 (5 * x3)))) + x1)) ∧ (w32 ((w32 (156 + (w32 (5 * x3)))) + x1)) < 181) ∧ (Xr [iV 1] (upS (upS σ 67 ((w32 ((w32 (156 + (w32 (5 * x1)))) + x2))).toNat (w32 ((σ 67 ((w32 ((w32 (156 + (w32 (5 * x1)))) + x2))).toNat).tdiv (w32 v16)))) 67 ((w32 ((w32 (156 + (w32 (5 * x3)))) + x1))).toNat (w32 (((upS σ 67 ((w32 ((w32 (156 + (w32 (5 * x1)))) + x2))).toNat (w32 ((σ 67 ((w32 ((w32 (156 + (w32 (5 * x1)))) + x2))).toNat).tdiv (w32 v16)))) 67 ((w32 ((w32 (156 + (w32 (5 * x3)))) + x1))).toNat).tdiv (w32 v16)))))))) else ((0 ≤ (w32 ((w32 (156 + (w32 (5 * x2)))) + x3)) ∧ (w32 ((w32 (156 + (w32 (5 * x2)))) + x3)) < 181) ∧ ((w32 v16) ≠ 0 ∧ ((0 ≤ (w32 ((w32 (156 + (w32 (5 * x2)))) + x3)) ∧ (w32 ((w32 (156 + (w32 (5 * x2)))) + x3)) < 181) ∧ ((0 ≤ (w32 ((w32 (156 + (w32 (5 * x3)))) + x1)) ∧ (w32 ((w32 (156 + (w32 (5 * x3)))) + x1)) < 181) ∧ ((w32 v16) ≠ 0 ∧ ((0 ≤ (w32 ((w32 (156 + (w32 (5 * x3)))) + x1)) ∧ (w32 ((w32 (156 + (w32 (5 * x3)))) + x1)) < 181) ∧ (Xr [iV 1] (upS (upS (upS σ 67 ((w32 ((w32 (156 + (w32 (5 * x1)))) + x2))).toNat (w32 ((σ 67 ((w32 ((w32 (156 + (w32 (5 * x1)))) + x2))).toNat).tdiv (w32 v16)))) 67 ((w32 ((w32 (156 + (w32 (5 * x2)))) + x3))).toNat (w32 (((upS σ 67 ((w32 ((w32 (156 + (w32 (5 * x1)))) + x2))).toNat (w32 ((σ 67 ((w32 ((w32 (156 + (w32 (5 * x1)))) + x2))).toNat).tdiv (w32 v16)))) 67 ((w32 ((w32 (156 + (w32 (5 * x2)))) + x3))).toNat).tdiv (w32 v16)))) 67 ((w32 ((w32 (156 + (w32 (5 * x3)))) + x1))).toNat (w32 (((upS (upS σ 67 ((w32 ((w32 (156 + (w32 (5 * x1)))) + x2))).toNat (w32 ((σ 67 ((w32 ((w32 (156 + (w32 (5 * x1)))) + x2))).toNat).tdiv (w32 v16)))) 67 ((w32 ((w32 (156 + (w32 (5 * x2)))) + x3))).toNat (w32 (((upS σ 67 ((w32 ((w32 (156 + (w32 (5 * x1)))) + x2))).toNat (w32 ((σ 67 ((w32 ((w32 (156 + (w32 (5 * x1)))) + x2))).toNat).tdiv (w32 v16)))) 67 ((w32 ((w32 (156 + (w32 (5 * x2)))) + x3))).toNat).tdiv (w32 v16)))) 67 ((w32 ((w32 (156 + (w32 (5 * x3)))) + x1))).toNat).tdiv (w32 v16))))))))))))))))))))))) : X 0 [rV 20 66, iV x1, iV x2, iV x3, uV, uV, uV, uV, uV] [] σ := by
  refine st_iload_n (pc := 0) hC dX11_strikes_0 rfl ?_
  refine st_iconst (pc := 1) hC dX11_strikes_1 (by decide) ?_
  refine st_icmp_ne (tg := 9) (pc := 2) hC dX11_strikes_2 (by decide) (ite_im h (fun h => ?_) (fun h => ?_))
  · refine st_iload_n (pc := 5) hC dX11_strikes_5 rfl ?_
    refine st_goto (tg := 10) (pc := 6) hC dX11_strikes_6 (by decide) ?_
    refine st_istore (L2 := [rV 20 66, iV x1, iV x2, iV x3, iV x2, uV, uV, uV, uV]) (pc := 10) hC dX11_strikes_10 (Nat.le_of_ble_eq_true rfl) rfl ?_
    refine st_aload_n (pc := 12) hC dX11_strikes_12 rfl (by decide) (by decide) ?_
    refine st_iload_n (pc := 13) hC dX11_strikes_13 rfl ?_
    refine st_iload_n (pc := 14) hC dX11_strikes_14 rfl ?_
    obtain ⟨v1, hq, h⟩ := h
    refine st_invV (As := [iV x1, iV x2]) (v := [iV v1]) (S := []) (pc := 15) hC dX11_strikes_15 cl_11_371 rfl rfl (Nat.le_of_ble_eq_true rfl) cr_X11_debt hq ?_
    refine st_istore (L2 := [rV 20 66, iV x1, iV x2, iV x3, iV x2, iV v1, uV, uV, uV]) (pc := 18) hC dX11_strikes_18 (Nat.le_of_ble_eq_true rfl) rfl ?_
    refine st_iload_n (pc := 20) hC dX11_strikes_20 rfl ?_
    refine st_iconst (pc := 21) hC dX11_strikes_21 (by decide) ?_
    refine st_icmp_ne (tg := 30) (pc := 22) hC dX11_strikes_22 (by decide) (ite_im h (fun h => ?_) (fun h => ?_))
    · refine st_iload (pc := 25) hC dX11_strikes_25 rfl ?_
      refine st_goto (tg := 36) (pc := 27) hC dX11_strikes_27 (by decide) ?_
      refine st_istore (L2 := [rV 20 66, iV x1, iV x2, iV x3, iV x2, iV v1, iV v1, uV, uV]) (pc := 36) hC dX11_strikes_36 (Nat.le_of_ble_eq_true rfl) rfl ?_
      refine st_aload_n (pc := 38) hC dX11_strikes_38 rfl (by decide) (by decide) ?_
      refine st_iload (pc := 39) hC dX11_strikes_39 rfl ?_
      refine st_iload_n (pc := 41) hC dX11_strikes_41 rfl ?_
      obtain ⟨v2, hq, h⟩ := h
      refine st_invV (As := [iV x2, iV x1]) (v := [iV v2]) (S := []) (pc := 42) hC dX11_strikes_42 cl_11_371 rfl rfl (Nat.le_of_ble_eq_true rfl) cr_X11_debt hq ?_
      refine st_istore (L2 := [rV 20 66, iV x1, iV x2, iV x3, iV x2, iV v1, iV v1, iV v2, uV]) (pc := 45) hC dX11_strikes_45 (Nat.le_of_ble_eq_true rfl) rfl ?_
      refine st_iload (pc := 47) hC dX11_strikes_47 rfl ?_
      refine st_i2l (pc := 49) hC dX11_strikes_49 ?_
      refine st_iload (pc := 50) hC dX11_strikes_50 rfl ?_
      refine st_i2l (pc := 52) hC dX11_strikes_52 ?_
      obtain ⟨v3, hq, h⟩ := h
      refine st_invS (As := [lV v1, lV v1]) (v := [lV v3]) (S := []) (pc := 53) hC dX11_strikes_53 cl_11_360 rfl rfl (Nat.le_of_ble_eq_true rfl) hq ?_
      refine st_iload (pc := 56) hC dX11_strikes_56 rfl ?_
      refine st_i2l (pc := 58) hC dX11_strikes_58 ?_
      obtain ⟨v4, hq, h⟩ := h
      refine st_invS (As := [lV v3, lV v2]) (v := [lV v4]) (S := []) (pc := 59) hC dX11_strikes_59 cl_11_360 rfl rfl (Nat.le_of_ble_eq_true rfl) hq ?_
      refine st_l2i (pc := 62) hC dX11_strikes_62 ?_
      refine st_istore (L2 := [rV 20 66, iV x1, iV x2, iV x3, iV x2, iV v1, iV v1, iV v2, iV (w32 v4)]) (pc := 63) hC dX11_strikes_63 (Nat.le_of_ble_eq_true rfl) rfl ?_
      refine st_iload (pc := 65) hC dX11_strikes_65 rfl ?_
      refine st_iconst (pc := 67) hC dX11_strikes_67 (by decide) ?_
      refine st_icmp_ge (tg := 73) (pc := 68) hC dX11_strikes_68 (by decide) (ite_im h (fun h => ?_) (fun h => ?_))
      · refine st_iconst (pc := 71) hC dX11_strikes_71 (by decide) ?_
        exact st_ireturn (pc := 72) hC dX11_strikes_72 (Or.inl rfl) h
      · refine st_aload_n (pc := 73) hC dX11_strikes_73 rfl (by decide) (by decide) ?_
        refine st_getf (ci := 10) (f := 0) (v := rV 1000181 67) (pc := 74) hC dX11_strikes_74 fl_11_9 rfl rfl ?_
        refine st_sipush (pc := 77) hC dX11_strikes_77 (by decide) ?_
        refine st_iconst (pc := 80) hC dX11_strikes_80 (by decide) ?_
        refine st_iload_n (pc := 81) hC dX11_strikes_81 rfl ?_
        refine st_imul (pc := 82) hC dX11_strikes_82 ?_
        refine st_iadd (pc := 83) hC dX11_strikes_83 ?_
        refine st_iload_n (pc := 84) hC dX11_strikes_84 rfl ?_
        refine st_iadd (pc := 85) hC dX11_strikes_85 ?_
        refine st_dup2IR (pc := 86) hC dX11_strikes_86 (by decide) (by decide) ?_
        obtain ⟨hb, h⟩ := h
        refine st_iald (n := 181) (pc := 87) hC dX11_strikes_87 (by decide) hb ?_
        refine st_iload (pc := 88) hC dX11_strikes_88 rfl ?_
        obtain ⟨h0, h⟩ := h
        refine st_idiv (pc := 90) hC dX11_strikes_90 h0 ?_
        obtain ⟨hb, h⟩ := h
        refine st_iast (n := 181) (pc := 91) hC dX11_strikes_91 (by decide) hb ?_
        refine st_iload_n (pc := 92) hC dX11_strikes_92 rfl ?_
        refine st_iconst (pc := 93) hC dX11_strikes_93 (by decide) ?_
        refine st_icmp_eq (tg := 116) (pc := 94) hC dX11_strikes_94 (by decide) (ite_im h (fun h => ?_) (fun h => ?_))
        · refine st_aload_n (pc := 116) hC dX11_strikes_116 rfl (by decide) (by decide) ?_
          refine st_getf (ci := 10) (f := 0) (v := rV 1000181 67) (pc := 117) hC dX11_strikes_117 fl_11_9 rfl rfl ?_
          refine st_sipush (pc := 120) hC dX11_strikes_120 (by decide) ?_
          refine st_iconst (pc := 123) hC dX11_strikes_123 (by decide) ?_
          refine st_iload (pc := 124) hC dX11_strikes_124 rfl ?_
          refine st_imul (pc := 126) hC dX11_strikes_126 ?_
          refine st_iadd (pc := 127) hC dX11_strikes_127 ?_
          refine st_iload_n (pc := 128) hC dX11_strikes_128 rfl ?_
          refine st_iadd (pc := 129) hC dX11_strikes_129 ?_
          refine st_dup2IR (pc := 130) hC dX11_strikes_130 (by decide) (by decide) ?_
          obtain ⟨hb, h⟩ := h
          refine st_iald (n := 181) (pc := 131) hC dX11_strikes_131 (by decide) hb ?_
          refine st_iload (pc := 132) hC dX11_strikes_132 rfl ?_
          obtain ⟨h0, h⟩ := h
          refine st_idiv (pc := 134) hC dX11_strikes_134 h0 ?_
          obtain ⟨hb, h⟩ := h
          refine st_iast (n := 181) (pc := 135) hC dX11_strikes_135 (by decide) hb ?_
          refine st_iconst (pc := 136) hC dX11_strikes_136 (by decide) ?_
          exact st_ireturn (pc := 137) hC dX11_strikes_137 (Or.inr rfl) h
        · refine st_aload_n (pc := 97) hC dX11_strikes_97 rfl (by decide) (by decide) ?_
          refine st_getf (ci := 10) (f := 0) (v := rV 1000181 67) (pc := 98) hC dX11_strikes_98 fl_11_9 rfl rfl ?_
          refine st_sipush (pc := 101) hC dX11_strikes_101 (by decide) ?_
          refine st_iconst (pc := 104) hC dX11_strikes_104 (by decide) ?_
          refine st_iload_n (pc := 105) hC dX11_strikes_105 rfl ?_
          refine st_imul (pc := 106) hC dX11_strikes_106 ?_
          refine st_iadd (pc := 107) hC dX11_strikes_107 ?_
          refine st_iload_n (pc := 108) hC dX11_strikes_108 rfl ?_
          refine st_iadd (pc := 109) hC dX11_strikes_109 ?_
          refine st_dup2IR (pc := 110) hC dX11_strikes_110 (by decide) (by decide) ?_
          obtain ⟨hb, h⟩ := h
          refine st_iald (n := 181) (pc := 111) hC dX11_strikes_111 (by decide) hb ?_
          refine st_iload (pc := 112) hC dX11_strikes_112 rfl ?_
          obtain ⟨h0, h⟩ := h
          refine st_idiv (pc := 114) hC dX11_strikes_114 h0 ?_
          obtain ⟨hb, h⟩ := h
          refine st_iast (n := 181) (pc := 115) hC dX11_strikes_115 (by decide) hb ?_
          refine st_aload_n (pc := 116) hC dX11_strikes_116 rfl (by decide) (by decide) ?_
          refine st_getf (ci := 10) (f := 0) (v := rV 1000181 67) (pc := 117) hC dX11_strikes_117 fl_11_9 rfl rfl ?_
          refine st_sipush (pc := 120) hC dX11_strikes_120 (by decide) ?_
          refine st_iconst (pc := 123) hC dX11_strikes_123 (by decide) ?_
          refine st_iload (pc := 124) hC dX11_strikes_124 rfl ?_
          refine st_imul (pc := 126) hC dX11_strikes_126 ?_
          refine st_iadd (pc := 127) hC dX11_strikes_127 ?_
          refine st_iload_n (pc := 128) hC dX11_strikes_128 rfl ?_
          refine st_iadd (pc := 129) hC dX11_strikes_129 ?_
          refine st_dup2IR (pc := 130) hC dX11_strikes_130 (by decide) (by decide) ?_
          obtain ⟨hb, h⟩ := h
          refine st_iald (n := 181) (pc := 131) hC dX11_strikes_131 (by decide) hb ?_
          refine st_iload (pc := 132) hC dX11_strikes_132 rfl ?_
          obtain ⟨h0, h⟩ := h
          refine st_idiv (pc := 134) hC dX11_strikes_134 h0 ?_
          obtain ⟨hb, h⟩ := h
          refine st_iast (n := 181) (pc := 135) hC dX11_strikes_135 (by decide) hb ?_
          refine st_iconst (pc := 136) hC dX11_strikes_136 (by decide) ?_
          exact st_ireturn (pc := 137) hC dX11_strikes_137 (Or.inr rfl) h
    · refine st_aload_n (pc := 30) hC dX11_strikes_30 rfl (by decide) (by decide) ?_
      refine st_iload_n (pc := 31) hC dX11_strikes_31 rfl ?_
      refine st_iload_n (pc := 32) hC dX11_strikes_32 rfl ?_
      obtain ⟨v5, hq, h⟩ := h
      refine st_invV (As := [iV x2, iV x3]) (v := [iV v5]) (S := []) (pc := 33) hC dX11_strikes_33 cl_11_371 rfl rfl (Nat.le_of_ble_eq_true rfl) cr_X11_debt hq ?_
      refine st_istore (L2 := [rV 20 66, iV x1, iV x2, iV x3, iV x2, iV v1, iV v5, uV, uV]) (pc := 36) hC dX11_strikes_36 (Nat.le_of_ble_eq_true rfl) rfl ?_
      refine st_aload_n (pc := 38) hC dX11_strikes_38 rfl (by decide) (by decide) ?_
      refine st_iload (pc := 39) hC dX11_strikes_39 rfl ?_
      refine st_iload_n (pc := 41) hC dX11_strikes_41 rfl ?_
      obtain ⟨v6, hq, h⟩ := h
      refine st_invV (As := [iV x2, iV x1]) (v := [iV v6]) (S := []) (pc := 42) hC dX11_strikes_42 cl_11_371 rfl rfl (Nat.le_of_ble_eq_true rfl) cr_X11_debt hq ?_
      refine st_istore (L2 := [rV 20 66, iV x1, iV x2, iV x3, iV x2, iV v1, iV v5, iV v6, uV]) (pc := 45) hC dX11_strikes_45 (Nat.le_of_ble_eq_true rfl) rfl ?_
      refine st_iload (pc := 47) hC dX11_strikes_47 rfl ?_
      refine st_i2l (pc := 49) hC dX11_strikes_49 ?_
      refine st_iload (pc := 50) hC dX11_strikes_50 rfl ?_
      refine st_i2l (pc := 52) hC dX11_strikes_52 ?_
      obtain ⟨v7, hq, h⟩ := h
      refine st_invS (As := [lV v1, lV v5]) (v := [lV v7]) (S := []) (pc := 53) hC dX11_strikes_53 cl_11_360 rfl rfl (Nat.le_of_ble_eq_true rfl) hq ?_
      refine st_iload (pc := 56) hC dX11_strikes_56 rfl ?_
      refine st_i2l (pc := 58) hC dX11_strikes_58 ?_
      obtain ⟨v8, hq, h⟩ := h
      refine st_invS (As := [lV v7, lV v6]) (v := [lV v8]) (S := []) (pc := 59) hC dX11_strikes_59 cl_11_360 rfl rfl (Nat.le_of_ble_eq_true rfl) hq ?_
      refine st_l2i (pc := 62) hC dX11_strikes_62 ?_
      refine st_istore (L2 := [rV 20 66, iV x1, iV x2, iV x3, iV x2, iV v1, iV v5, iV v6, iV (w32 v8)]) (pc := 63) hC dX11_strikes_63 (Nat.le_of_ble_eq_true rfl) rfl ?_
      refine st_iload (pc := 65) hC dX11_strikes_65 rfl ?_
      refine st_iconst (pc := 67) hC dX11_strikes_67 (by decide) ?_
      refine st_icmp_ge (tg := 73) (pc := 68) hC dX11_strikes_68 (by decide) (ite_im h (fun h => ?_) (fun h => ?_))
      · refine st_iconst (pc := 71) hC dX11_strikes_71 (by decide) ?_
        exact st_ireturn (pc := 72) hC dX11_strikes_72 (Or.inl rfl) h
      · refine st_aload_n (pc := 73) hC dX11_strikes_73 rfl (by decide) (by decide) ?_
        refine st_getf (ci := 10) (f := 0) (v := rV 1000181 67) (pc := 74) hC dX11_strikes_74 fl_11_9 rfl rfl ?_
        refine st_sipush (pc := 77) hC dX11_strikes_77 (by decide) ?_
        refine st_iconst (pc := 80) hC dX11_strikes_80 (by decide) ?_
        refine st_iload_n (pc := 81) hC dX11_strikes_81 rfl ?_
        refine st_imul (pc := 82) hC dX11_strikes_82 ?_
        refine st_iadd (pc := 83) hC dX11_strikes_83 ?_
        refine st_iload_n (pc := 84) hC dX11_strikes_84 rfl ?_
        refine st_iadd (pc := 85) hC dX11_strikes_85 ?_
        refine st_dup2IR (pc := 86) hC dX11_strikes_86 (by decide) (by decide) ?_
        obtain ⟨hb, h⟩ := h
        refine st_iald (n := 181) (pc := 87) hC dX11_strikes_87 (by decide) hb ?_
        refine st_iload (pc := 88) hC dX11_strikes_88 rfl ?_
        obtain ⟨h0, h⟩ := h
        refine st_idiv (pc := 90) hC dX11_strikes_90 h0 ?_
        obtain ⟨hb, h⟩ := h
        refine st_iast (n := 181) (pc := 91) hC dX11_strikes_91 (by decide) hb ?_
        refine st_iload_n (pc := 92) hC dX11_strikes_92 rfl ?_
        refine st_iconst (pc := 93) hC dX11_strikes_93 (by decide) ?_
        refine st_icmp_eq (tg := 116) (pc := 94) hC dX11_strikes_94 (by decide) (ite_im h (fun h => ?_) (fun h => ?_))
        · refine st_aload_n (pc := 116) hC dX11_strikes_116 rfl (by decide) (by decide) ?_
          refine st_getf (ci := 10) (f := 0) (v := rV 1000181 67) (pc := 117) hC dX11_strikes_117 fl_11_9 rfl rfl ?_
          refine st_sipush (pc := 120) hC dX11_strikes_120 (by decide) ?_
          refine st_iconst (pc := 123) hC dX11_strikes_123 (by decide) ?_
          refine st_iload (pc := 124) hC dX11_strikes_124 rfl ?_
          refine st_imul (pc := 126) hC dX11_strikes_126 ?_
          refine st_iadd (pc := 127) hC dX11_strikes_127 ?_
          refine st_iload_n (pc := 128) hC dX11_strikes_128 rfl ?_
          refine st_iadd (pc := 129) hC dX11_strikes_129 ?_
          refine st_dup2IR (pc := 130) hC dX11_strikes_130 (by decide) (by decide) ?_
          obtain ⟨hb, h⟩ := h
          refine st_iald (n := 181) (pc := 131) hC dX11_strikes_131 (by decide) hb ?_
          refine st_iload (pc := 132) hC dX11_strikes_132 rfl ?_
          obtain ⟨h0, h⟩ := h
          refine st_idiv (pc := 134) hC dX11_strikes_134 h0 ?_
          obtain ⟨hb, h⟩ := h
          refine st_iast (n := 181) (pc := 135) hC dX11_strikes_135 (by decide) hb ?_
          refine st_iconst (pc := 136) hC dX11_strikes_136 (by decide) ?_
          exact st_ireturn (pc := 137) hC dX11_strikes_137 (Or.inr rfl) h
        · refine st_aload_n (pc := 97) hC dX11_strikes_97 rfl (by decide) (by decide) ?_
          refine st_getf (ci := 10) (f := 0) (v := rV 1000181 67) (pc := 98) hC dX11_strikes_98 fl_11_9 rfl rfl ?_
          refine st_sipush (pc := 101) hC dX11_strikes_101 (by decide) ?_
          refine st_iconst (pc := 104) hC dX11_strikes_104 (by decide) ?_
          refine st_iload_n (pc := 105) hC dX11_strikes_105 rfl ?_
          refine st_imul (pc := 106) hC dX11_strikes_106 ?_
          refine st_iadd (pc := 107) hC dX11_strikes_107 ?_
          refine st_iload_n (pc := 108) hC dX11_strikes_108 rfl ?_
          refine st_iadd (pc := 109) hC dX11_strikes_109 ?_
          refine st_dup2IR (pc := 110) hC dX11_strikes_110 (by decide) (by decide) ?_
          obtain ⟨hb, h⟩ := h
          refine st_iald (n := 181) (pc := 111) hC dX11_strikes_111 (by decide) hb ?_
          refine st_iload (pc := 112) hC dX11_strikes_112 rfl ?_
          obtain ⟨h0, h⟩ := h
          refine st_idiv (pc := 114) hC dX11_strikes_114 h0 ?_
          obtain ⟨hb, h⟩ := h
          refine st_iast (n := 181) (pc := 115) hC dX11_strikes_115 (by decide) hb ?_
          refine st_aload_n (pc := 116) hC dX11_strikes_116 rfl (by decide) (by decide) ?_
          refine st_getf (ci := 10) (f := 0) (v := rV 1000181 67) (pc := 117) hC dX11_strikes_117 fl_11_9 rfl rfl ?_
          refine st_sipush (pc := 120) hC dX11_strikes_120 (by decide) ?_
          refine st_iconst (pc := 123) hC dX11_strikes_123 (by decide) ?_
          refine st_iload (pc := 124) hC dX11_strikes_124 rfl ?_
          refine st_imul (pc := 126) hC dX11_strikes_126 ?_
          refine st_iadd (pc := 127) hC dX11_strikes_127 ?_
          refine st_iload_n (pc := 128) hC dX11_strikes_128 rfl ?_
          refine st_iadd (pc := 129) hC dX11_strikes_129 ?_
          refine st_dup2IR (pc := 130) hC dX11_strikes_130 (by decide) (by decide) ?_
          obtain ⟨hb, h⟩ := h
          refine st_iald (n := 181) (pc := 131) hC dX11_strikes_131 (by decide) hb ?_
          refine st_iload (pc := 132) hC dX11_strikes_132 rfl ?_
          obtain ⟨h0, h⟩ := h
          refine st_idiv (pc := 134) hC dX11_strikes_134 h0 ?_
          obtain ⟨hb, h⟩ := h
          refine st_iast (n := 181) (pc := 135) hC dX11_strikes_135 (by decide) hb ?_
          refine st_iconst (pc := 136) hC dX11_strikes_136 (by decide) ?_
          exact st_ireturn (pc := 137) hC dX11_strikes_137 (Or.inr rfl) h
  · refine st_iload_n (pc := 9) hC dX11_strikes_9 rfl ?_
    refine st_istore (L2 := [rV 20 66, iV x1, iV x2, iV x3, iV x3, uV, uV, uV, uV]) (pc := 10) hC dX11_strikes_10 (Nat.le_of_ble_eq_true rfl) rfl ?_
    refine st_aload_n (pc := 12) hC dX11_strikes_12 rfl (by decide) (by decide) ?_
    refine st_iload_n (pc := 13) hC dX11_strikes_13 rfl ?_
    refine st_iload_n (pc := 14) hC dX11_strikes_14 rfl ?_
    obtain ⟨v9, hq, h⟩ := h
    refine st_invV (As := [iV x1, iV x2]) (v := [iV v9]) (S := []) (pc := 15) hC dX11_strikes_15 cl_11_371 rfl rfl (Nat.le_of_ble_eq_true rfl) cr_X11_debt hq ?_
    refine st_istore (L2 := [rV 20 66, iV x1, iV x2, iV x3, iV x3, iV v9, uV, uV, uV]) (pc := 18) hC dX11_strikes_18 (Nat.le_of_ble_eq_true rfl) rfl ?_
    refine st_iload_n (pc := 20) hC dX11_strikes_20 rfl ?_
    refine st_iconst (pc := 21) hC dX11_strikes_21 (by decide) ?_
    refine st_icmp_ne (tg := 30) (pc := 22) hC dX11_strikes_22 (by decide) (ite_im h (fun h => ?_) (fun h => ?_))
    · refine st_iload (pc := 25) hC dX11_strikes_25 rfl ?_
      refine st_goto (tg := 36) (pc := 27) hC dX11_strikes_27 (by decide) ?_
      refine st_istore (L2 := [rV 20 66, iV x1, iV x2, iV x3, iV x3, iV v9, iV v9, uV, uV]) (pc := 36) hC dX11_strikes_36 (Nat.le_of_ble_eq_true rfl) rfl ?_
      refine st_aload_n (pc := 38) hC dX11_strikes_38 rfl (by decide) (by decide) ?_
      refine st_iload (pc := 39) hC dX11_strikes_39 rfl ?_
      refine st_iload_n (pc := 41) hC dX11_strikes_41 rfl ?_
      obtain ⟨v10, hq, h⟩ := h
      refine st_invV (As := [iV x3, iV x1]) (v := [iV v10]) (S := []) (pc := 42) hC dX11_strikes_42 cl_11_371 rfl rfl (Nat.le_of_ble_eq_true rfl) cr_X11_debt hq ?_
      refine st_istore (L2 := [rV 20 66, iV x1, iV x2, iV x3, iV x3, iV v9, iV v9, iV v10, uV]) (pc := 45) hC dX11_strikes_45 (Nat.le_of_ble_eq_true rfl) rfl ?_
      refine st_iload (pc := 47) hC dX11_strikes_47 rfl ?_
      refine st_i2l (pc := 49) hC dX11_strikes_49 ?_
      refine st_iload (pc := 50) hC dX11_strikes_50 rfl ?_
      refine st_i2l (pc := 52) hC dX11_strikes_52 ?_
      obtain ⟨v11, hq, h⟩ := h
      refine st_invS (As := [lV v9, lV v9]) (v := [lV v11]) (S := []) (pc := 53) hC dX11_strikes_53 cl_11_360 rfl rfl (Nat.le_of_ble_eq_true rfl) hq ?_
      refine st_iload (pc := 56) hC dX11_strikes_56 rfl ?_
      refine st_i2l (pc := 58) hC dX11_strikes_58 ?_
      obtain ⟨v12, hq, h⟩ := h
      refine st_invS (As := [lV v11, lV v10]) (v := [lV v12]) (S := []) (pc := 59) hC dX11_strikes_59 cl_11_360 rfl rfl (Nat.le_of_ble_eq_true rfl) hq ?_
      refine st_l2i (pc := 62) hC dX11_strikes_62 ?_
      refine st_istore (L2 := [rV 20 66, iV x1, iV x2, iV x3, iV x3, iV v9, iV v9, iV v10, iV (w32 v12)]) (pc := 63) hC dX11_strikes_63 (Nat.le_of_ble_eq_true rfl) rfl ?_
      refine st_iload (pc := 65) hC dX11_strikes_65 rfl ?_
      refine st_iconst (pc := 67) hC dX11_strikes_67 (by decide) ?_
      refine st_icmp_ge (tg := 73) (pc := 68) hC dX11_strikes_68 (by decide) (ite_im h (fun h => ?_) (fun h => ?_))
      · refine st_iconst (pc := 71) hC dX11_strikes_71 (by decide) ?_
        exact st_ireturn (pc := 72) hC dX11_strikes_72 (Or.inl rfl) h
      · refine st_aload_n (pc := 73) hC dX11_strikes_73 rfl (by decide) (by decide) ?_
        refine st_getf (ci := 10) (f := 0) (v := rV 1000181 67) (pc := 74) hC dX11_strikes_74 fl_11_9 rfl rfl ?_
        refine st_sipush (pc := 77) hC dX11_strikes_77 (by decide) ?_
        refine st_iconst (pc := 80) hC dX11_strikes_80 (by decide) ?_
        refine st_iload_n (pc := 81) hC dX11_strikes_81 rfl ?_
        refine st_imul (pc := 82) hC dX11_strikes_82 ?_
        refine st_iadd (pc := 83) hC dX11_strikes_83 ?_
        refine st_iload_n (pc := 84) hC dX11_strikes_84 rfl ?_
        refine st_iadd (pc := 85) hC dX11_strikes_85 ?_
        refine st_dup2IR (pc := 86) hC dX11_strikes_86 (by decide) (by decide) ?_
        obtain ⟨hb, h⟩ := h
        refine st_iald (n := 181) (pc := 87) hC dX11_strikes_87 (by decide) hb ?_
        refine st_iload (pc := 88) hC dX11_strikes_88 rfl ?_
        obtain ⟨h0, h⟩ := h
        refine st_idiv (pc := 90) hC dX11_strikes_90 h0 ?_
        obtain ⟨hb, h⟩ := h
        refine st_iast (n := 181) (pc := 91) hC dX11_strikes_91 (by decide) hb ?_
        refine st_iload_n (pc := 92) hC dX11_strikes_92 rfl ?_
        refine st_iconst (pc := 93) hC dX11_strikes_93 (by decide) ?_
        refine st_icmp_eq (tg := 116) (pc := 94) hC dX11_strikes_94 (by decide) (ite_im h (fun h => ?_) (fun h => ?_))
        · refine st_aload_n (pc := 116) hC dX11_strikes_116 rfl (by decide) (by decide) ?_
          refine st_getf (ci := 10) (f := 0) (v := rV 1000181 67) (pc := 117) hC dX11_strikes_117 fl_11_9 rfl rfl ?_
          refine st_sipush (pc := 120) hC dX11_strikes_120 (by decide) ?_
          refine st_iconst (pc := 123) hC dX11_strikes_123 (by decide) ?_
          refine st_iload (pc := 124) hC dX11_strikes_124 rfl ?_
          refine st_imul (pc := 126) hC dX11_strikes_126 ?_
          refine st_iadd (pc := 127) hC dX11_strikes_127 ?_
          refine st_iload_n (pc := 128) hC dX11_strikes_128 rfl ?_
          refine st_iadd (pc := 129) hC dX11_strikes_129 ?_
          refine st_dup2IR (pc := 130) hC dX11_strikes_130 (by decide) (by decide) ?_
          obtain ⟨hb, h⟩ := h
          refine st_iald (n := 181) (pc := 131) hC dX11_strikes_131 (by decide) hb ?_
          refine st_iload (pc := 132) hC dX11_strikes_132 rfl ?_
          obtain ⟨h0, h⟩ := h
          refine st_idiv (pc := 134) hC dX11_strikes_134 h0 ?_
          obtain ⟨hb, h⟩ := h
          refine st_iast (n := 181) (pc := 135) hC dX11_strikes_135 (by decide) hb ?_
          refine st_iconst (pc := 136) hC dX11_strikes_136 (by decide) ?_
          exact st_ireturn (pc := 137) hC dX11_strikes_137 (Or.inr rfl) h
        · refine st_aload_n (pc := 97) hC dX11_strikes_97 rfl (by decide) (by decide) ?_
          refine st_getf (ci := 10) (f := 0) (v := rV 1000181 67) (pc := 98) hC dX11_strikes_98 fl_11_9 rfl rfl ?_
          refine st_sipush (pc := 101) hC dX11_strikes_101 (by decide) ?_
          refine st_iconst (pc := 104) hC dX11_strikes_104 (by decide) ?_
          refine st_iload_n (pc := 105) hC dX11_strikes_105 rfl ?_
          refine st_imul (pc := 106) hC dX11_strikes_106 ?_
          refine st_iadd (pc := 107) hC dX11_strikes_107 ?_
          refine st_iload_n (pc := 108) hC dX11_strikes_108 rfl ?_
          refine st_iadd (pc := 109) hC dX11_strikes_109 ?_
          refine st_dup2IR (pc := 110) hC dX11_strikes_110 (by decide) (by decide) ?_
          obtain ⟨hb, h⟩ := h
          refine st_iald (n := 181) (pc := 111) hC dX11_strikes_111 (by decide) hb ?_
          refine st_iload (pc := 112) hC dX11_strikes_112 rfl ?_
          obtain ⟨h0, h⟩ := h
          refine st_idiv (pc := 114) hC dX11_strikes_114 h0 ?_
          obtain ⟨hb, h⟩ := h
          refine st_iast (n := 181) (pc := 115) hC dX11_strikes_115 (by decide) hb ?_
          refine st_aload_n (pc := 116) hC dX11_strikes_116 rfl (by decide) (by decide) ?_
          refine st_getf (ci := 10) (f := 0) (v := rV 1000181 67) (pc := 117) hC dX11_strikes_117 fl_11_9 rfl rfl ?_
          refine st_sipush (pc := 120) hC dX11_strikes_120 (by decide) ?_
          refine st_iconst (pc := 123) hC dX11_strikes_123 (by decide) ?_
          refine st_iload (pc := 124) hC dX11_strikes_124 rfl ?_
          refine st_imul (pc := 126) hC dX11_strikes_126 ?_
          refine st_iadd (pc := 127) hC dX11_strikes_127 ?_
          refine st_iload_n (pc := 128) hC dX11_strikes_128 rfl ?_
          refine st_iadd (pc := 129) hC dX11_strikes_129 ?_
          refine st_dup2IR (pc := 130) hC dX11_strikes_130 (by decide) (by decide) ?_
          obtain ⟨hb, h⟩ := h
          refine st_iald (n := 181) (pc := 131) hC dX11_strikes_131 (by decide) hb ?_
          refine st_iload (pc := 132) hC dX11_strikes_132 rfl ?_
          obtain ⟨h0, h⟩ := h
          refine st_idiv (pc := 134) hC dX11_strikes_134 h0 ?_
          obtain ⟨hb, h⟩ := h
          refine st_iast (n := 181) (pc := 135) hC dX11_strikes_135 (by decide) hb ?_
          refine st_iconst (pc := 136) hC dX11_strikes_136 (by decide) ?_
          exact st_ireturn (pc := 137) hC dX11_strikes_137 (Or.inr rfl) h
    · refine st_aload_n (pc := 30) hC dX11_strikes_30 rfl (by decide) (by decide) ?_
      refine st_iload_n (pc := 31) hC dX11_strikes_31 rfl ?_
      refine st_iload_n (pc := 32) hC dX11_strikes_32 rfl ?_
      obtain ⟨v13, hq, h⟩ := h
      refine st_invV (As := [iV x2, iV x3]) (v := [iV v13]) (S := []) (pc := 33) hC dX11_strikes_33 cl_11_371 rfl rfl (Nat.le_of_ble_eq_true rfl) cr_X11_debt hq ?_
      refine st_istore (L2 := [rV 20 66, iV x1, iV x2, iV x3, iV x3, iV v9, iV v13, uV, uV]) (pc := 36) hC dX11_strikes_36 (Nat.le_of_ble_eq_true rfl) rfl ?_
      refine st_aload_n (pc := 38) hC dX11_strikes_38 rfl (by decide) (by decide) ?_
      refine st_iload (pc := 39) hC dX11_strikes_39 rfl ?_
      refine st_iload_n (pc := 41) hC dX11_strikes_41 rfl ?_
      obtain ⟨v14, hq, h⟩ := h
      refine st_invV (As := [iV x3, iV x1]) (v := [iV v14]) (S := []) (pc := 42) hC dX11_strikes_42 cl_11_371 rfl rfl (Nat.le_of_ble_eq_true rfl) cr_X11_debt hq ?_
      refine st_istore (L2 := [rV 20 66, iV x1, iV x2, iV x3, iV x3, iV v9, iV v13, iV v14, uV]) (pc := 45) hC dX11_strikes_45 (Nat.le_of_ble_eq_true rfl) rfl ?_
      refine st_iload (pc := 47) hC dX11_strikes_47 rfl ?_
      refine st_i2l (pc := 49) hC dX11_strikes_49 ?_
      refine st_iload (pc := 50) hC dX11_strikes_50 rfl ?_
      refine st_i2l (pc := 52) hC dX11_strikes_52 ?_
      obtain ⟨v15, hq, h⟩ := h
      refine st_invS (As := [lV v9, lV v13]) (v := [lV v15]) (S := []) (pc := 53) hC dX11_strikes_53 cl_11_360 rfl rfl (Nat.le_of_ble_eq_true rfl) hq ?_
      refine st_iload (pc := 56) hC dX11_strikes_56 rfl ?_
      refine st_i2l (pc := 58) hC dX11_strikes_58 ?_
      obtain ⟨v16, hq, h⟩ := h
      refine st_invS (As := [lV v15, lV v14]) (v := [lV v16]) (S := []) (pc := 59) hC dX11_strikes_59 cl_11_360 rfl rfl (Nat.le_of_ble_eq_true rfl) hq ?_
      refine st_l2i (pc := 62) hC dX11_strikes_62 ?_
      refine st_istore (L2 := [rV 20 66, iV x1, iV x2, iV x3, iV x3, iV v9, iV v13, iV v14, iV (w32 v16)]) (pc := 63) hC dX11_strikes_63 (Nat.le_of_ble_eq_true rfl) rfl ?_
      refine st_iload (pc := 65) hC dX11_strikes_65 rfl ?_
      refine st_iconst (pc := 67) hC dX11_strikes_67 (by decide) ?_
      refine st_icmp_ge (tg := 73) (pc := 68) hC dX11_strikes_68 (by decide) (ite_im h (fun h => ?_) (fun h => ?_))
      · refine st_iconst (pc := 71) hC dX11_strikes_71 (by decide) ?_
        exact st_ireturn (pc := 72) hC dX11_strikes_72 (Or.inl rfl) h
      · refine st_aload_n (pc := 73) hC dX11_strikes_73 rfl (by decide) (by decide) ?_
        refine st_getf (ci := 10) (f := 0) (v := rV 1000181 67) (pc := 74) hC dX11_strikes_74 fl_11_9 rfl rfl ?_
        refine st_sipush (pc := 77) hC dX11_strikes_77 (by decide) ?_
        refine st_iconst (pc := 80) hC dX11_strikes_80 (by decide) ?_
        refine st_iload_n (pc := 81) hC dX11_strikes_81 rfl ?_
        refine st_imul (pc := 82) hC dX11_strikes_82 ?_
        refine st_iadd (pc := 83) hC dX11_strikes_83 ?_
        refine st_iload_n (pc := 84) hC dX11_strikes_84 rfl ?_
        refine st_iadd (pc := 85) hC dX11_strikes_85 ?_
        refine st_dup2IR (pc := 86) hC dX11_strikes_86 (by decide) (by decide) ?_
        obtain ⟨hb, h⟩ := h
        refine st_iald (n := 181) (pc := 87) hC dX11_strikes_87 (by decide) hb ?_
        refine st_iload (pc := 88) hC dX11_strikes_88 rfl ?_
        obtain ⟨h0, h⟩ := h
        refine st_idiv (pc := 90) hC dX11_strikes_90 h0 ?_
        obtain ⟨hb, h⟩ := h
        refine st_iast (n := 181) (pc := 91) hC dX11_strikes_91 (by decide) hb ?_
        refine st_iload_n (pc := 92) hC dX11_strikes_92 rfl ?_
        refine st_iconst (pc := 93) hC dX11_strikes_93 (by decide) ?_
        refine st_icmp_eq (tg := 116) (pc := 94) hC dX11_strikes_94 (by decide) (ite_im h (fun h => ?_) (fun h => ?_))
        · refine st_aload_n (pc := 116) hC dX11_strikes_116 rfl (by decide) (by decide) ?_
          refine st_getf (ci := 10) (f := 0) (v := rV 1000181 67) (pc := 117) hC dX11_strikes_117 fl_11_9 rfl rfl ?_
          refine st_sipush (pc := 120) hC dX11_strikes_120 (by decide) ?_
          refine st_iconst (pc := 123) hC dX11_strikes_123 (by decide) ?_
          refine st_iload (pc := 124) hC dX11_strikes_124 rfl ?_
          refine st_imul (pc := 126) hC dX11_strikes_126 ?_
          refine st_iadd (pc := 127) hC dX11_strikes_127 ?_
          refine st_iload_n (pc := 128) hC dX11_strikes_128 rfl ?_
          refine st_iadd (pc := 129) hC dX11_strikes_129 ?_
          refine st_dup2IR (pc := 130) hC dX11_strikes_130 (by decide) (by decide) ?_
          obtain ⟨hb, h⟩ := h
          refine st_iald (n := 181) (pc := 131) hC dX11_strikes_131 (by decide) hb ?_
          refine st_iload (pc := 132) hC dX11_strikes_132 rfl ?_
          obtain ⟨h0, h⟩ := h
          refine st_idiv (pc := 134) hC dX11_strikes_134 h0 ?_
          obtain ⟨hb, h⟩ := h
          refine st_iast (n := 181) (pc := 135) hC dX11_strikes_135 (by decide) hb ?_
          refine st_iconst (pc := 136) hC dX11_strikes_136 (by decide) ?_
          exact st_ireturn (pc := 137) hC dX11_strikes_137 (Or.inr rfl) h
        · refine st_aload_n (pc := 97) hC dX11_strikes_97 rfl (by decide) (by decide) ?_
          refine st_getf (ci := 10) (f := 0) (v := rV 1000181 67) (pc := 98) hC dX11_strikes_98 fl_11_9 rfl rfl ?_
          refine st_sipush (pc := 101) hC dX11_strikes_101 (by decide) ?_
          refine st_iconst (pc := 104) hC dX11_strikes_104 (by decide) ?_
          refine st_iload_n (pc := 105) hC dX11_strikes_105 rfl ?_
          refine st_imul (pc := 106) hC dX11_strikes_106 ?_
          refine st_iadd (pc := 107) hC dX11_strikes_107 ?_
          refine st_iload_n (pc := 108) hC dX11_strikes_108 rfl ?_
          refine st_iadd (pc := 109) hC dX11_strikes_109 ?_
          refine st_dup2IR (pc := 110) hC dX11_strikes_110 (by decide) (by decide) ?_
          obtain ⟨hb, h⟩ := h
          refine st_iald (n := 181) (pc := 111) hC dX11_strikes_111 (by decide) hb ?_
          refine st_iload (pc := 112) hC dX11_strikes_112 rfl ?_
          obtain ⟨h0, h⟩ := h
          refine st_idiv (pc := 114) hC dX11_strikes_114 h0 ?_
          obtain ⟨hb, h⟩ := h
          refine st_iast (n := 181) (pc := 115) hC dX11_strikes_115 (by decide) hb ?_
          refine st_aload_n (pc := 116) hC dX11_strikes_116 rfl (by decide) (by decide) ?_
          refine st_getf (ci := 10) (f := 0) (v := rV 1000181 67) (pc := 117) hC dX11_strikes_117 fl_11_9 rfl rfl ?_
          refine st_sipush (pc := 120) hC dX11_strikes_120 (by decide) ?_
          refine st_iconst (pc := 123) hC dX11_strikes_123 (by decide) ?_
          refine st_iload (pc := 124) hC dX11_strikes_124 rfl ?_
          refine st_imul (pc := 126) hC dX11_strikes_126 ?_
          refine st_iadd (pc := 127) hC dX11_strikes_127 ?_
          refine st_iload_n (pc := 128) hC dX11_strikes_128 rfl ?_
          refine st_iadd (pc := 129) hC dX11_strikes_129 ?_
          refine st_dup2IR (pc := 130) hC dX11_strikes_130 (by decide) (by decide) ?_
          obtain ⟨hb, h⟩ := h
          refine st_iald (n := 181) (pc := 131) hC dX11_strikes_131 (by decide) hb ?_
          refine st_iload (pc := 132) hC dX11_strikes_132 rfl ?_
          obtain ⟨h0, h⟩ := h
          refine st_idiv (pc := 134) hC dX11_strikes_134 h0 ?_
          obtain ⟨hb, h⟩ := h
          refine st_iast (n := 181) (pc := 135) hC dX11_strikes_135 (by decide) hb ?_
          refine st_iconst (pc := 136) hC dX11_strikes_136 (by decide) ?_
          exact st_ireturn (pc := 137) hC dX11_strikes_137 (Or.inr rfl) h
theorem bX11_strikesFirst_0 {C : Nat → List Vv → Sg → Rs → Sg → Prop} {X : Nat → List Vv → List Vv → Sg → Prop} {Xr : List Vv → Sg → Prop} {Xt : Nat → Sg → Prop} (hC : Clo C 11 cX11_strikesFirst (some .boolean) X Xr Xt) {σ : Sg} (h : X 2 [rV 20 66, iV 0, uV, uV] [] σ) : X 0 [rV 20 66, uV, uV, uV] [] σ := by
  refine st_iconst (pc := 0) hC dX11_strikesFirst_0 (by decide) ?_
  refine st_istore_n (L2 := [rV 20 66, iV 0, uV, uV]) (pc := 1) hC dX11_strikesFirst_1 (Nat.le_of_ble_eq_true rfl) rfl ?_
  exact h
theorem bX11_strikesFirst_2 {C : Nat → List Vv → Sg → Rs → Sg → Prop} {X : Nat → List Vv → List Vv → Sg → Prop} {Xr : List Vv → Sg → Prop} {Xt : Nat → Sg → Prop} (hC : Clo C 11 cX11_strikesFirst (some .boolean) X Xr Xt) {x1 : Int} {σ : Sg} (h : ∃ v1 : Int, C MX11_people [rV 20 66] σ (.inl [iV v1]) σ ∧ (if x1 < v1 then (X 14 [rV 20 66, iV x1, iV (w32 (x1 + 1)), uV] [] σ) else (X 48 [rV 20 66, iV 0, uV, uV] [] σ))) : X 2 [rV 20 66, iV x1, uV, uV] [] σ := by
  refine st_iload_n (pc := 2) hC dX11_strikesFirst_2 rfl ?_
  refine st_aload_n (pc := 3) hC dX11_strikesFirst_3 rfl (by decide) (by decide) ?_
  obtain ⟨v1, hq, h⟩ := h
  refine st_invV (As := []) (v := [iV v1]) (S := [iV x1]) (pc := 4) hC dX11_strikesFirst_4 cl_11_190 rfl rfl (Nat.le_of_ble_eq_true rfl) cr_X11_people hq ?_
  refine st_icmp_ge (tg := 46) (pc := 7) hC dX11_strikesFirst_7 (by decide) (ite_im h (fun h => ?_) (fun h => ?_))
  · refine st_iload_n (pc := 10) hC dX11_strikesFirst_10 rfl ?_
    refine st_iconst (pc := 11) hC dX11_strikesFirst_11 (by decide) ?_
    refine st_iadd (pc := 12) hC dX11_strikesFirst_12 ?_
    refine st_istore_n (L2 := [rV 20 66, iV x1, iV (w32 (x1 + 1)), uV]) (pc := 13) hC dX11_strikesFirst_13 (Nat.le_of_ble_eq_true rfl) rfl ?_
    exact h
  · refine st_iconst (pc := 46) hC dX11_strikesFirst_46 (by decide) ?_
    refine st_istore_n (L2 := [rV 20 66, iV 0, uV, uV]) (pc := 47) hC dX11_strikesFirst_47 (Nat.le_of_ble_eq_true rfl) rfl ?_
    exact h
theorem bX11_strikesFirst_14 {C : Nat → List Vv → Sg → Rs → Sg → Prop} {X : Nat → List Vv → List Vv → Sg → Prop} {Xr : List Vv → Sg → Prop} {Xt : Nat → Sg → Prop} (hC : Clo C 11 cX11_strikesFirst (some .boolean) X Xr Xt) {x1 x2 : Int} {σ : Sg} (h : ∃ v1 : Int, C MX11_people [rV 20 66] σ (.inl [iV v1]) σ ∧ (if x2 < v1 then (∃ v2 : Int, ∃ σ2 : Sg, C MX11_strikes [rV 20 66, iV x1, iV x2, iV (-1)] σ (.inl [iV v2]) σ2 ∧ (if v2 = 0 then (X 14 [rV 20 66, iV x1, iV (w32 (x2 + 1)), uV] [] σ2) else (Xr [iV 1] σ2))) else (X 2 [rV 20 66, iV (w32 (x1 + 1)), uV, uV] [] σ))) : X 14 [rV 20 66, iV x1, iV x2, uV] [] σ := by
  refine st_iload_n (pc := 14) hC dX11_strikesFirst_14 rfl ?_
  refine st_aload_n (pc := 15) hC dX11_strikesFirst_15 rfl (by decide) (by decide) ?_
  obtain ⟨v1, hq, h⟩ := h
  refine st_invV (As := []) (v := [iV v1]) (S := [iV x2]) (pc := 16) hC dX11_strikesFirst_16 cl_11_190 rfl rfl (Nat.le_of_ble_eq_true rfl) cr_X11_people hq ?_
  refine st_icmp_ge (tg := 40) (pc := 19) hC dX11_strikesFirst_19 (by decide) (ite_im h (fun h => ?_) (fun h => ?_))
  · refine st_aload_n (pc := 22) hC dX11_strikesFirst_22 rfl (by decide) (by decide) ?_
    refine st_iload_n (pc := 23) hC dX11_strikesFirst_23 rfl ?_
    refine st_iload_n (pc := 24) hC dX11_strikesFirst_24 rfl ?_
    refine st_iconst (pc := 25) hC dX11_strikesFirst_25 (by decide) ?_
    obtain ⟨v2, σ2, hq, h⟩ := h
    refine st_invV (As := [iV x1, iV x2, iV (-1)]) (v := [iV v2]) (S := []) (pc := 26) hC dX11_strikesFirst_26 cl_11_374 rfl rfl (Nat.le_of_ble_eq_true rfl) cr_X11_strikes hq ?_
    refine st_if_eq (tg := 34) (pc := 29) hC dX11_strikesFirst_29 (by decide) (ite_im h (fun h => ?_) (fun h => ?_))
    · refine st_iinc (L2 := [rV 20 66, iV x1, iV (w32 (x2 + 1)), uV]) (pc := 34) hC dX11_strikesFirst_34 rfl (Nat.le_of_ble_eq_true rfl) rfl ?_
      refine st_goto (tg := 14) (pc := 37) hC dX11_strikesFirst_37 (by decide) ?_
      exact h
    · refine st_iconst (pc := 32) hC dX11_strikesFirst_32 (by decide) ?_
      exact st_ireturn (pc := 33) hC dX11_strikesFirst_33 (Or.inr rfl) h
  · refine st_iinc (L2 := [rV 20 66, iV (w32 (x1 + 1)), iV x2, uV]) (pc := 40) hC dX11_strikesFirst_40 rfl (Nat.le_of_ble_eq_true rfl) rfl ?_
    refine st_goto (tg := 2) (pc := 43) hC dX11_strikesFirst_43 (by decide) ?_
    exact st_fg (L2 := [rV 20 66, iV (w32 (x1 + 1)), uV, uV]) hC ⟨Or.inl rfl, Or.inl rfl, Or.inr rfl, Or.inl rfl, trivial⟩ h
theorem bX11_strikesFirst_48 {C : Nat → List Vv → Sg → Rs → Sg → Prop} {X : Nat → List Vv → List Vv → Sg → Prop} {Xr : List Vv → Sg → Prop} {Xt : Nat → Sg → Prop} (hC : Clo C 11 cX11_strikesFirst (some .boolean) X Xr Xt) {x1 : Int} {σ : Sg} (h : ∃ v1 : Int, C MX11_people [rV 20 66] σ (.inl [iV v1]) σ ∧ (if x1 < v1 then (X 60 [rV 20 66, iV x1, iV (w32 (x1 + 1)), uV] [] σ) else (Xr [iV 0] σ))) : X 48 [rV 20 66, iV x1, uV, uV] [] σ := by
  refine st_iload_n (pc := 48) hC dX11_strikesFirst_48 rfl ?_
  refine st_aload_n (pc := 49) hC dX11_strikesFirst_49 rfl (by decide) (by decide) ?_
  obtain ⟨v1, hq, h⟩ := h
  refine st_invV (As := []) (v := [iV v1]) (S := [iV x1]) (pc := 50) hC dX11_strikesFirst_50 cl_11_190 rfl rfl (Nat.le_of_ble_eq_true rfl) cr_X11_people hq ?_
  refine st_icmp_ge (tg := 115) (pc := 53) hC dX11_strikesFirst_53 (by decide) (ite_im h (fun h => ?_) (fun h => ?_))
  · refine st_iload_n (pc := 56) hC dX11_strikesFirst_56 rfl ?_
    refine st_iconst (pc := 57) hC dX11_strikesFirst_57 (by decide) ?_
    refine st_iadd (pc := 58) hC dX11_strikesFirst_58 ?_
    refine st_istore_n (L2 := [rV 20 66, iV x1, iV (w32 (x1 + 1)), uV]) (pc := 59) hC dX11_strikesFirst_59 (Nat.le_of_ble_eq_true rfl) rfl ?_
    exact h
  · refine st_iconst (pc := 115) hC dX11_strikesFirst_115 (by decide) ?_
    exact st_ireturn (pc := 116) hC dX11_strikesFirst_116 (Or.inl rfl) h
theorem bX11_strikesFirst_60 {C : Nat → List Vv → Sg → Rs → Sg → Prop} {X : Nat → List Vv → List Vv → Sg → Prop} {Xr : List Vv → Sg → Prop} {Xt : Nat → Sg → Prop} (hC : Clo C 11 cX11_strikesFirst (some .boolean) X Xr Xt) {x1 x2 : Int} {σ : Sg} (h : ∃ v1 : Int, C MX11_people [rV 20 66] σ (.inl [iV v1]) σ ∧ (if x2 < v1 then (X 72 [rV 20 66, iV x1, iV x2, iV (w32 (x1 + 1))] [] σ) else (X 48 [rV 20 66, iV (w32 (x1 + 1)), uV, uV] [] σ))) : X 60 [rV 20 66, iV x1, iV x2, uV] [] σ := by
  refine st_iload_n (pc := 60) hC dX11_strikesFirst_60 rfl ?_
  refine st_aload_n (pc := 61) hC dX11_strikesFirst_61 rfl (by decide) (by decide) ?_
  obtain ⟨v1, hq, h⟩ := h
  refine st_invV (As := []) (v := [iV v1]) (S := [iV x2]) (pc := 62) hC dX11_strikesFirst_62 cl_11_190 rfl rfl (Nat.le_of_ble_eq_true rfl) cr_X11_people hq ?_
  refine st_icmp_ge (tg := 109) (pc := 65) hC dX11_strikesFirst_65 (by decide) (ite_im h (fun h => ?_) (fun h => ?_))
  · refine st_iload_n (pc := 68) hC dX11_strikesFirst_68 rfl ?_
    refine st_iconst (pc := 69) hC dX11_strikesFirst_69 (by decide) ?_
    refine st_iadd (pc := 70) hC dX11_strikesFirst_70 ?_
    refine st_istore_n (L2 := [rV 20 66, iV x1, iV x2, iV (w32 (x1 + 1))]) (pc := 71) hC dX11_strikesFirst_71 (Nat.le_of_ble_eq_true rfl) rfl ?_
    exact h
  · refine st_iinc (L2 := [rV 20 66, iV (w32 (x1 + 1)), iV x2, uV]) (pc := 109) hC dX11_strikesFirst_109 rfl (Nat.le_of_ble_eq_true rfl) rfl ?_
    refine st_goto (tg := 48) (pc := 112) hC dX11_strikesFirst_112 (by decide) ?_
    exact st_fg (L2 := [rV 20 66, iV (w32 (x1 + 1)), uV, uV]) hC ⟨Or.inl rfl, Or.inl rfl, Or.inr rfl, Or.inl rfl, trivial⟩ h
theorem bX11_strikesFirst_72 {C : Nat → List Vv → Sg → Rs → Sg → Prop} {X : Nat → List Vv → List Vv → Sg → Prop} {Xr : List Vv → Sg → Prop} {Xt : Nat → Sg → Prop} (hC : Clo C 11 cX11_strikesFirst (some .boolean) X Xr Xt) {x1 x2 x3 : Int} {σ : Sg} (h : ∃ v1 : Int, C MX11_people [rV 20 66] σ (.inl [iV v1]) σ ∧ (if x3 < v1 then (if x2 = x3 then (X 72 [rV 20 66, iV x1, iV x2, iV (w32 (x3 + 1))] [] σ) else (∃ v2 : Int, ∃ σ2 : Sg, C MX11_strikes [rV 20 66, iV x1, iV x2, iV x3] σ (.inl [iV v2]) σ2 ∧ (if v2 = 0 then (X 72 [rV 20 66, iV x1, iV x2, iV (w32 (x3 + 1))] [] σ2) else (Xr [iV 1] σ2)))) else (X 60 [rV 20 66, iV x1, iV (w32 (x2 + 1)), uV] [] σ))) : X 72 [rV 20 66, iV x1, iV x2, iV x3] [] σ := by
  refine st_iload_n (pc := 72) hC dX11_strikesFirst_72 rfl ?_
  refine st_aload_n (pc := 73) hC dX11_strikesFirst_73 rfl (by decide) (by decide) ?_
  obtain ⟨v1, hq, h⟩ := h
  refine st_invV (As := []) (v := [iV v1]) (S := [iV x3]) (pc := 74) hC dX11_strikesFirst_74 cl_11_190 rfl rfl (Nat.le_of_ble_eq_true rfl) cr_X11_people hq ?_
  refine st_icmp_ge (tg := 103) (pc := 77) hC dX11_strikesFirst_77 (by decide) (ite_im h (fun h => ?_) (fun h => ?_))
  · refine st_iload_n (pc := 80) hC dX11_strikesFirst_80 rfl ?_
    refine st_iload_n (pc := 81) hC dX11_strikesFirst_81 rfl ?_
    refine st_icmp_eq (tg := 97) (pc := 82) hC dX11_strikesFirst_82 (by decide) (ite_im h (fun h => ?_) (fun h => ?_))
    · refine st_iinc (L2 := [rV 20 66, iV x1, iV x2, iV (w32 (x3 + 1))]) (pc := 97) hC dX11_strikesFirst_97 rfl (Nat.le_of_ble_eq_true rfl) rfl ?_
      refine st_goto (tg := 72) (pc := 100) hC dX11_strikesFirst_100 (by decide) ?_
      exact h
    · refine st_aload_n (pc := 85) hC dX11_strikesFirst_85 rfl (by decide) (by decide) ?_
      refine st_iload_n (pc := 86) hC dX11_strikesFirst_86 rfl ?_
      refine st_iload_n (pc := 87) hC dX11_strikesFirst_87 rfl ?_
      refine st_iload_n (pc := 88) hC dX11_strikesFirst_88 rfl ?_
      obtain ⟨v2, σ2, hq, h⟩ := h
      refine st_invV (As := [iV x1, iV x2, iV x3]) (v := [iV v2]) (S := []) (pc := 89) hC dX11_strikesFirst_89 cl_11_374 rfl rfl (Nat.le_of_ble_eq_true rfl) cr_X11_strikes hq ?_
      refine st_if_eq (tg := 97) (pc := 92) hC dX11_strikesFirst_92 (by decide) (ite_im h (fun h => ?_) (fun h => ?_))
      · refine st_iinc (L2 := [rV 20 66, iV x1, iV x2, iV (w32 (x3 + 1))]) (pc := 97) hC dX11_strikesFirst_97 rfl (Nat.le_of_ble_eq_true rfl) rfl ?_
        refine st_goto (tg := 72) (pc := 100) hC dX11_strikesFirst_100 (by decide) ?_
        exact h
      · refine st_iconst (pc := 95) hC dX11_strikesFirst_95 (by decide) ?_
        exact st_ireturn (pc := 96) hC dX11_strikesFirst_96 (Or.inr rfl) h
  · refine st_iinc (L2 := [rV 20 66, iV x1, iV (w32 (x2 + 1)), iV x3]) (pc := 103) hC dX11_strikesFirst_103 rfl (Nat.le_of_ble_eq_true rfl) rfl ?_
    refine st_goto (tg := 60) (pc := 106) hC dX11_strikesFirst_106 (by decide) ?_
    exact st_fg (L2 := [rV 20 66, iV x1, iV (w32 (x2 + 1)), uV]) hC ⟨Or.inl rfl, Or.inl rfl, Or.inl rfl, Or.inr rfl, trivial⟩ h
theorem bX11_struck_0 {C : Nat → List Vv → Sg → Rs → Sg → Prop} {X : Nat → List Vv → List Vv → Sg → Prop} {Xr : List Vv → Sg → Prop} {Xt : Nat → Sg → Prop} (hC : Clo C 11 cX11_struck (some .int) X Xr Xt) {σ : Sg} (h : X 7 [rV 20 66, iV 0] [] (upS σ 66 5 0)) : X 0 [rV 20 66, uV] [] σ := by
  refine st_aload_n (pc := 0) hC dX11_struck_0 rfl (by decide) (by decide) ?_
  refine st_iconst (pc := 1) hC dX11_struck_1 (by decide) ?_
  refine st_putfI (ci := 10) (f := 5) (pc := 2) hC dX11_struck_2 fl_11_64 rfl rfl ?_
  refine st_iconst (pc := 5) hC dX11_struck_5 (by decide) ?_
  refine st_istore_n (L2 := [rV 20 66, iV 0]) (pc := 6) hC dX11_struck_6 (Nat.le_of_ble_eq_true rfl) rfl ?_
  exact h
theorem bX11_struck_7 {C : Nat → List Vv → Sg → Rs → Sg → Prop} {X : Nat → List Vv → List Vv → Sg → Prop} {Xr : List Vv → Sg → Prop} {Xt : Nat → Sg → Prop} (hC : Clo C 11 cX11_struck (some .int) X Xr Xt) {x1 : Int} {σ : Sg} (h : ∃ v1 : Int, ∃ σ1 : Sg, C MX11_strikesFirst [rV 20 66] σ (.inl [iV v1]) σ1 ∧ (if v1 = 0 then (Xr [iV x1] σ1) else (X 7 [rV 20 66, iV (w32 (x1 + 1))] [] σ1))) : X 7 [rV 20 66, iV x1] [] σ := by
  refine st_aload_n (pc := 7) hC dX11_struck_7 rfl (by decide) (by decide) ?_
  obtain ⟨v1, σ1, hq, h⟩ := h
  refine st_invV (As := []) (v := [iV v1]) (S := []) (pc := 8) hC dX11_struck_8 cl_11_378 rfl rfl (Nat.le_of_ble_eq_true rfl) cr_X11_strikesFirst hq ?_
  refine st_if_eq (tg := 20) (pc := 11) hC dX11_struck_11 (by decide) (ite_im h (fun h => ?_) (fun h => ?_))
  · refine st_iload_n (pc := 20) hC dX11_struck_20 rfl ?_
    exact st_ireturn (pc := 21) hC dX11_struck_21 trivial h
  · refine st_iinc (L2 := [rV 20 66, iV (w32 (x1 + 1))]) (pc := 14) hC dX11_struck_14 rfl (Nat.le_of_ble_eq_true rfl) rfl ?_
    refine st_goto (tg := 7) (pc := 17) hC dX11_struck_17 (by decide) ?_
    exact h
theorem bX11_isTray_0 {C : Nat → List Vv → Sg → Rs → Sg → Prop} {X : Nat → List Vv → List Vv → Sg → Prop} {Xr : List Vv → Sg → Prop} {Xt : Nat → Sg → Prop} (hC : Clo C 11 cX11_isTray (some .boolean) X Xr Xt) {x0 : Int} {σ : Sg} (h : ∃ v1 : Int, C MX11_within [lV x0, lV 0, lV 3] σ (.inl [iV v1]) σ ∧ ((v1 = 0 ∨ v1 = 1) ∧ Xr [iV v1] σ)) : X 0 [iV x0] [] σ := by
  refine st_iload_n (pc := 0) hC dX11_isTray_0 rfl ?_
  refine st_i2l (pc := 1) hC dX11_isTray_1 ?_
  refine st_lconst0 (pc := 2) hC dX11_isTray_2 ?_
  refine st_ldc2 (pc := 3) hC dX11_isTray_3 rfl ?_
  obtain ⟨v1, hq, h⟩ := h
  refine st_invS (As := [lV x0, lV 0, lV 3]) (v := [iV v1]) (S := []) (pc := 6) hC dX11_isTray_6 cl_11_133 rfl rfl (Nat.le_of_ble_eq_true rfl) hq ?_
  exact st_ireturn (pc := 9) hC dX11_isTray_9 h.1 h.2
theorem bX11_tray_0 {C : Nat → List Vv → Sg → Rs → Sg → Prop} {X : Nat → List Vv → List Vv → Sg → Prop} {Xr : List Vv → Sg → Prop} {Xt : Nat → Sg → Prop} (hC : Clo C 11 cX11_tray none X Xr Xt) {x1 x2 x3 : Int} {σ : Sg} (h : ∃ v1 : Int, C MX11_isTray [iV x1] σ (.inl [iV v1]) σ ∧ (if v1 = 0 then (if (0 : Int) < ((upS σ 66 5 1) 66 5) then (Xr [] (upS σ 66 5 1)) else ((0 ≤ x1 ∧ x1 < 4) ∧ ((0 ≤ x1 ∧ x1 < 4) ∧ (X 69 [rV 20 66, iV x1, iV x2, iV x3, iV 0] [] (upS (upS (upS σ 66 5 1) 77 (x1).toNat x2) 78 (x1).toNat x3))))) else (∃ v2 : Int, C MX11_within [lV x2, lV 0, lV 3] σ (.inl [iV v2]) σ ∧ (if v2 = 0 then (if (0 : Int) < ((upS σ 66 5 2) 66 5) then (Xr [] (upS σ 66 5 2)) else ((0 ≤ x1 ∧ x1 < 4) ∧ ((0 ≤ x1 ∧ x1 < 4) ∧ (X 69 [rV 20 66, iV x1, iV x2, iV x3, iV 0] [] (upS (upS (upS σ 66 5 2) 77 (x1).toNat x2) 78 (x1).toNat x3))))) else (∃ v3 : Int, C MX11_within [lV x3, lV 0, lV 30] σ (.inl [iV v3]) σ ∧ (if v3 = 0 then (if (0 : Int) < ((upS σ 66 5 2) 66 5) then (Xr [] (upS σ 66 5 2)) else ((0 ≤ x1 ∧ x1 < 4) ∧ ((0 ≤ x1 ∧ x1 < 4) ∧ (X 69 [rV 20 66, iV x1, iV x2, iV x3, iV 0] [] (upS (upS (upS σ 66 5 2) 77 (x1).toNat x2) 78 (x1).toNat x3))))) else (if (0 : Int) < ((upS σ 66 5 0) 66 5) then (Xr [] (upS σ 66 5 0)) else ((0 ≤ x1 ∧ x1 < 4) ∧ ((0 ≤ x1 ∧ x1 < 4) ∧ (X 69 [rV 20 66, iV x1, iV x2, iV x3, iV 0] [] (upS (upS (upS σ 66 5 0) 77 (x1).toNat x2) 78 (x1).toNat x3))))))))))) : X 0 [rV 20 66, iV x1, iV x2, iV x3, uV] [] σ := by
  refine st_aload_n (pc := 0) hC dX11_tray_0 rfl (by decide) (by decide) ?_
  refine st_iload_n (pc := 1) hC dX11_tray_1 rfl ?_
  obtain ⟨v1, hq, h⟩ := h
  refine st_invS (As := [iV x1]) (v := [iV v1]) (S := [rV 20 66]) (pc := 2) hC dX11_tray_2 cl_11_258 rfl rfl (Nat.le_of_ble_eq_true rfl) hq ?_
  refine st_if_ne (tg := 12) (pc := 5) hC dX11_tray_5 (by decide) (ite_im h (fun h => ?_) (fun h => ?_))
  · refine st_iconst (pc := 8) hC dX11_tray_8 (by decide) ?_
    refine st_goto (tg := 41) (pc := 9) hC dX11_tray_9 (by decide) ?_
    refine st_putfI (ci := 10) (f := 5) (pc := 41) hC dX11_tray_41 fl_11_64 rfl rfl ?_
    refine st_aload_n (pc := 44) hC dX11_tray_44 rfl (by decide) (by decide) ?_
    refine st_getf (ci := 10) (f := 5) (v := iV ((upS σ 66 5 1) 66 5)) (pc := 45) hC dX11_tray_45 fl_11_64 rfl rfl ?_
    refine st_if_le (tg := 52) (pc := 48) hC dX11_tray_48 (by decide) (ite_im h (fun h => ?_) (fun h => ?_))
    · exact st_return (pc := 51) hC dX11_tray_51 h
    · refine st_aload_n (pc := 52) hC dX11_tray_52 rfl (by decide) (by decide) ?_
      refine st_getf (ci := 10) (f := 26) (v := rV 1000004 77) (pc := 53) hC dX11_tray_53 fl_11_47 rfl rfl ?_
      refine st_iload_n (pc := 56) hC dX11_tray_56 rfl ?_
      refine st_iload_n (pc := 57) hC dX11_tray_57 rfl ?_
      obtain ⟨hb, h⟩ := h
      refine st_iast (n := 4) (pc := 58) hC dX11_tray_58 (by decide) hb ?_
      refine st_aload_n (pc := 59) hC dX11_tray_59 rfl (by decide) (by decide) ?_
      refine st_getf (ci := 10) (f := 27) (v := rV 1000004 78) (pc := 60) hC dX11_tray_60 fl_11_50 rfl rfl ?_
      refine st_iload_n (pc := 63) hC dX11_tray_63 rfl ?_
      refine st_iload_n (pc := 64) hC dX11_tray_64 rfl ?_
      obtain ⟨hb, h⟩ := h
      refine st_iast (n := 4) (pc := 65) hC dX11_tray_65 (by decide) hb ?_
      refine st_iconst (pc := 66) hC dX11_tray_66 (by decide) ?_
      refine st_istore (L2 := [rV 20 66, iV x1, iV x2, iV x3, iV 0]) (pc := 67) hC dX11_tray_67 (Nat.le_of_ble_eq_true rfl) rfl ?_
      exact h
  · refine st_iload_n (pc := 12) hC dX11_tray_12 rfl ?_
    refine st_i2l (pc := 13) hC dX11_tray_13 ?_
    refine st_lconst0 (pc := 14) hC dX11_tray_14 ?_
    refine st_ldc2 (pc := 15) hC dX11_tray_15 rfl ?_
    obtain ⟨v2, hq, h⟩ := h
    refine st_invS (As := [lV x2, lV 0, lV 3]) (v := [iV v2]) (S := [rV 20 66]) (pc := 18) hC dX11_tray_18 cl_11_133 rfl rfl (Nat.le_of_ble_eq_true rfl) hq ?_
    refine st_if_eq (tg := 36) (pc := 21) hC dX11_tray_21 (by decide) (ite_im h (fun h => ?_) (fun h => ?_))
    · refine st_iconst (pc := 36) hC dX11_tray_36 (by decide) ?_
      refine st_goto (tg := 41) (pc := 37) hC dX11_tray_37 (by decide) ?_
      refine st_putfI (ci := 10) (f := 5) (pc := 41) hC dX11_tray_41 fl_11_64 rfl rfl ?_
      refine st_aload_n (pc := 44) hC dX11_tray_44 rfl (by decide) (by decide) ?_
      refine st_getf (ci := 10) (f := 5) (v := iV ((upS σ 66 5 2) 66 5)) (pc := 45) hC dX11_tray_45 fl_11_64 rfl rfl ?_
      refine st_if_le (tg := 52) (pc := 48) hC dX11_tray_48 (by decide) (ite_im h (fun h => ?_) (fun h => ?_))
      · exact st_return (pc := 51) hC dX11_tray_51 h
      · refine st_aload_n (pc := 52) hC dX11_tray_52 rfl (by decide) (by decide) ?_
        refine st_getf (ci := 10) (f := 26) (v := rV 1000004 77) (pc := 53) hC dX11_tray_53 fl_11_47 rfl rfl ?_
        refine st_iload_n (pc := 56) hC dX11_tray_56 rfl ?_
        refine st_iload_n (pc := 57) hC dX11_tray_57 rfl ?_
        obtain ⟨hb, h⟩ := h
        refine st_iast (n := 4) (pc := 58) hC dX11_tray_58 (by decide) hb ?_
        refine st_aload_n (pc := 59) hC dX11_tray_59 rfl (by decide) (by decide) ?_
        refine st_getf (ci := 10) (f := 27) (v := rV 1000004 78) (pc := 60) hC dX11_tray_60 fl_11_50 rfl rfl ?_
        refine st_iload_n (pc := 63) hC dX11_tray_63 rfl ?_
        refine st_iload_n (pc := 64) hC dX11_tray_64 rfl ?_
        obtain ⟨hb, h⟩ := h
        refine st_iast (n := 4) (pc := 65) hC dX11_tray_65 (by decide) hb ?_
        refine st_iconst (pc := 66) hC dX11_tray_66 (by decide) ?_
        refine st_istore (L2 := [rV 20 66, iV x1, iV x2, iV x3, iV 0]) (pc := 67) hC dX11_tray_67 (Nat.le_of_ble_eq_true rfl) rfl ?_
        exact h
    · refine st_iload_n (pc := 24) hC dX11_tray_24 rfl ?_
      refine st_i2l (pc := 25) hC dX11_tray_25 ?_
      refine st_lconst0 (pc := 26) hC dX11_tray_26 ?_
      refine st_ldc2 (pc := 27) hC dX11_tray_27 rfl ?_
      obtain ⟨v3, hq, h⟩ := h
      refine st_invS (As := [lV x3, lV 0, lV 30]) (v := [iV v3]) (S := [rV 20 66]) (pc := 30) hC dX11_tray_30 cl_11_133 rfl rfl (Nat.le_of_ble_eq_true rfl) hq ?_
      refine st_if_ne (tg := 40) (pc := 33) hC dX11_tray_33 (by decide) (ite_im h (fun h => ?_) (fun h => ?_))
      · refine st_iconst (pc := 36) hC dX11_tray_36 (by decide) ?_
        refine st_goto (tg := 41) (pc := 37) hC dX11_tray_37 (by decide) ?_
        refine st_putfI (ci := 10) (f := 5) (pc := 41) hC dX11_tray_41 fl_11_64 rfl rfl ?_
        refine st_aload_n (pc := 44) hC dX11_tray_44 rfl (by decide) (by decide) ?_
        refine st_getf (ci := 10) (f := 5) (v := iV ((upS σ 66 5 2) 66 5)) (pc := 45) hC dX11_tray_45 fl_11_64 rfl rfl ?_
        refine st_if_le (tg := 52) (pc := 48) hC dX11_tray_48 (by decide) (ite_im h (fun h => ?_) (fun h => ?_))
        · exact st_return (pc := 51) hC dX11_tray_51 h
        · refine st_aload_n (pc := 52) hC dX11_tray_52 rfl (by decide) (by decide) ?_
          refine st_getf (ci := 10) (f := 26) (v := rV 1000004 77) (pc := 53) hC dX11_tray_53 fl_11_47 rfl rfl ?_
          refine st_iload_n (pc := 56) hC dX11_tray_56 rfl ?_
          refine st_iload_n (pc := 57) hC dX11_tray_57 rfl ?_
          obtain ⟨hb, h⟩ := h
          refine st_iast (n := 4) (pc := 58) hC dX11_tray_58 (by decide) hb ?_
          refine st_aload_n (pc := 59) hC dX11_tray_59 rfl (by decide) (by decide) ?_
          refine st_getf (ci := 10) (f := 27) (v := rV 1000004 78) (pc := 60) hC dX11_tray_60 fl_11_50 rfl rfl ?_
          refine st_iload_n (pc := 63) hC dX11_tray_63 rfl ?_
          refine st_iload_n (pc := 64) hC dX11_tray_64 rfl ?_
          obtain ⟨hb, h⟩ := h
          refine st_iast (n := 4) (pc := 65) hC dX11_tray_65 (by decide) hb ?_
          refine st_iconst (pc := 66) hC dX11_tray_66 (by decide) ?_
          refine st_istore (L2 := [rV 20 66, iV x1, iV x2, iV x3, iV 0]) (pc := 67) hC dX11_tray_67 (Nat.le_of_ble_eq_true rfl) rfl ?_
          exact h
      · refine st_iconst (pc := 40) hC dX11_tray_40 (by decide) ?_
        refine st_putfI (ci := 10) (f := 5) (pc := 41) hC dX11_tray_41 fl_11_64 rfl rfl ?_
        refine st_aload_n (pc := 44) hC dX11_tray_44 rfl (by decide) (by decide) ?_
        refine st_getf (ci := 10) (f := 5) (v := iV ((upS σ 66 5 0) 66 5)) (pc := 45) hC dX11_tray_45 fl_11_64 rfl rfl ?_
        refine st_if_le (tg := 52) (pc := 48) hC dX11_tray_48 (by decide) (ite_im h (fun h => ?_) (fun h => ?_))
        · exact st_return (pc := 51) hC dX11_tray_51 h
        · refine st_aload_n (pc := 52) hC dX11_tray_52 rfl (by decide) (by decide) ?_
          refine st_getf (ci := 10) (f := 26) (v := rV 1000004 77) (pc := 53) hC dX11_tray_53 fl_11_47 rfl rfl ?_
          refine st_iload_n (pc := 56) hC dX11_tray_56 rfl ?_
          refine st_iload_n (pc := 57) hC dX11_tray_57 rfl ?_
          obtain ⟨hb, h⟩ := h
          refine st_iast (n := 4) (pc := 58) hC dX11_tray_58 (by decide) hb ?_
          refine st_aload_n (pc := 59) hC dX11_tray_59 rfl (by decide) (by decide) ?_
          refine st_getf (ci := 10) (f := 27) (v := rV 1000004 78) (pc := 60) hC dX11_tray_60 fl_11_50 rfl rfl ?_
          refine st_iload_n (pc := 63) hC dX11_tray_63 rfl ?_
          refine st_iload_n (pc := 64) hC dX11_tray_64 rfl ?_
          obtain ⟨hb, h⟩ := h
          refine st_iast (n := 4) (pc := 65) hC dX11_tray_65 (by decide) hb ?_
          refine st_iconst (pc := 66) hC dX11_tray_66 (by decide) ?_
          refine st_istore (L2 := [rV 20 66, iV x1, iV x2, iV x3, iV 0]) (pc := 67) hC dX11_tray_67 (Nat.le_of_ble_eq_true rfl) rfl ?_
          exact h
theorem bX11_tray_69 {C : Nat → List Vv → Sg → Rs → Sg → Prop} {X : Nat → List Vv → List Vv → Sg → Prop} {Xr : List Vv → Sg → Prop} {Xt : Nat → Sg → Prop} (hC : Clo C 11 cX11_tray none X Xr Xt) {x1 x2 x3 x4 : Int} {σ : Sg} (h : if x4 < 30 then ((0 ≤ (w32 ((w32 (30 * x1)) + x4)) ∧ (w32 ((w32 (30 * x1)) + x4)) < 120) ∧ (X 69 [rV 20 66, iV x1, iV x2, iV x3, iV (w32 (x4 + 1))] [] (upS σ 79 ((w32 ((w32 (30 * x1)) + x4))).toNat 0))) else (Xr [] σ)) : X 69 [rV 20 66, iV x1, iV x2, iV x3, iV x4] [] σ := by
  refine st_iload (pc := 69) hC dX11_tray_69 rfl ?_
  refine st_bipush (pc := 71) hC dX11_tray_71 (by decide) ?_
  refine st_icmp_ge (tg := 95) (pc := 73) hC dX11_tray_73 (by decide) (ite_im h (fun h => ?_) (fun h => ?_))
  · refine st_aload_n (pc := 76) hC dX11_tray_76 rfl (by decide) (by decide) ?_
    refine st_getf (ci := 10) (f := 28) (v := rV 2000120 79) (pc := 77) hC dX11_tray_77 fl_11_53 rfl rfl ?_
    refine st_bipush (pc := 80) hC dX11_tray_80 (by decide) ?_
    refine st_iload_n (pc := 82) hC dX11_tray_82 rfl ?_
    refine st_imul (pc := 83) hC dX11_tray_83 ?_
    refine st_iload (pc := 84) hC dX11_tray_84 rfl ?_
    refine st_iadd (pc := 86) hC dX11_tray_86 ?_
    refine st_lconst0 (pc := 87) hC dX11_tray_87 ?_
    obtain ⟨hb, h⟩ := h
    refine st_last (n := 120) (pc := 88) hC dX11_tray_88 (by decide) hb ?_
    refine st_iinc (L2 := [rV 20 66, iV x1, iV x2, iV x3, iV (w32 (x4 + 1))]) (pc := 89) hC dX11_tray_89 rfl (Nat.le_of_ble_eq_true rfl) rfl ?_
    refine st_goto (tg := 69) (pc := 92) hC dX11_tray_92 (by decide) ?_
    exact h
  · exact st_return (pc := 95) hC dX11_tray_95 h
theorem bX11_cut_0 {C : Nat → List Vv → Sg → Rs → Sg → Prop} {X : Nat → List Vv → List Vv → Sg → Prop} {Xr : List Vv → Sg → Prop} {Xt : Nat → Sg → Prop} (hC : Clo C 11 cX11_cut (some .long) X Xr Xt) {x1 x2 x3 : Int} {σ : Sg} (h : (0 ≤ x1 ∧ x1 < 4) ∧ ((0 ≤ (w32 ((w32 (30 * x1)) + x2)) ∧ (w32 ((w32 (30 * x1)) + x2)) < 120) ∧ ((0 ≤ (w32 ((w32 (30 * x1)) + x2)) ∧ (w32 ((w32 (30 * x1)) + x2)) < 120) ∧ (Xr [lV ((upS σ 79 ((w32 ((w32 (30 * x1)) + x2))).toNat (lshrI (lshlI x3 (w32 (64 - (ishlI 8 (σ 77 (x1).toNat))))) (w32 (64 - (ishlI 8 (σ 77 (x1).toNat)))))) 79 ((w32 ((w32 (30 * x1)) + x2))).toNat)] (upS σ 79 ((w32 ((w32 (30 * x1)) + x2))).toNat (lshrI (lshlI x3 (w32 (64 - (ishlI 8 (σ 77 (x1).toNat))))) (w32 (64 - (ishlI 8 (σ 77 (x1).toNat)))))))))) : X 0 [rV 20 66, iV x1, iV x2, lV x3, uV, uV] [] σ := by
  refine st_bipush (pc := 0) hC dX11_cut_0 (by decide) ?_
  refine st_bipush (pc := 2) hC dX11_cut_2 (by decide) ?_
  refine st_aload_n (pc := 4) hC dX11_cut_4 rfl (by decide) (by decide) ?_
  refine st_getf (ci := 10) (f := 26) (v := rV 1000004 77) (pc := 5) hC dX11_cut_5 fl_11_47 rfl rfl ?_
  refine st_iload_n (pc := 8) hC dX11_cut_8 rfl ?_
  obtain ⟨hb, h⟩ := h
  refine st_iald (n := 4) (pc := 9) hC dX11_cut_9 (by decide) hb ?_
  refine st_ishl (pc := 10) hC dX11_cut_10 ?_
  refine st_isub (pc := 11) hC dX11_cut_11 ?_
  refine st_istore (L2 := [rV 20 66, iV x1, iV x2, lV x3, uV, iV (w32 (64 - (ishlI 8 (σ 77 (x1).toNat))))]) (pc := 12) hC dX11_cut_12 (Nat.le_of_ble_eq_true rfl) rfl ?_
  refine st_aload_n (pc := 14) hC dX11_cut_14 rfl (by decide) (by decide) ?_
  refine st_getf (ci := 10) (f := 28) (v := rV 2000120 79) (pc := 15) hC dX11_cut_15 fl_11_53 rfl rfl ?_
  refine st_bipush (pc := 18) hC dX11_cut_18 (by decide) ?_
  refine st_iload_n (pc := 20) hC dX11_cut_20 rfl ?_
  refine st_imul (pc := 21) hC dX11_cut_21 ?_
  refine st_iload_n (pc := 22) hC dX11_cut_22 rfl ?_
  refine st_iadd (pc := 23) hC dX11_cut_23 ?_
  refine st_lload_n (pc := 24) hC dX11_cut_24 rfl ?_
  refine st_iload (pc := 25) hC dX11_cut_25 rfl ?_
  refine st_lshl (pc := 27) hC dX11_cut_27 ?_
  refine st_iload (pc := 28) hC dX11_cut_28 rfl ?_
  refine st_lshr (pc := 30) hC dX11_cut_30 ?_
  obtain ⟨hb, h⟩ := h
  refine st_last (n := 120) (pc := 31) hC dX11_cut_31 (by decide) hb ?_
  refine st_aload_n (pc := 32) hC dX11_cut_32 rfl (by decide) (by decide) ?_
  refine st_getf (ci := 10) (f := 28) (v := rV 2000120 79) (pc := 33) hC dX11_cut_33 fl_11_53 rfl rfl ?_
  refine st_bipush (pc := 36) hC dX11_cut_36 (by decide) ?_
  refine st_iload_n (pc := 38) hC dX11_cut_38 rfl ?_
  refine st_imul (pc := 39) hC dX11_cut_39 ?_
  refine st_iload_n (pc := 40) hC dX11_cut_40 rfl ?_
  refine st_iadd (pc := 41) hC dX11_cut_41 ?_
  obtain ⟨hb, h⟩ := h
  refine st_lald (n := 120) (pc := 42) hC dX11_cut_42 (by decide) hb ?_
  exact st_lreturn (pc := 43) hC dX11_cut_43 h
theorem bX11_write_0 {C : Nat → List Vv → Sg → Rs → Sg → Prop} {X : Nat → List Vv → List Vv → Sg → Prop} {Xr : List Vv → Sg → Prop} {Xt : Nat → Sg → Prop} (hC : Clo C 11 cX11_write (some .long) X Xr Xt) {x1 x2 x3 : Int} {σ : Sg} (h : ∃ v1 : Int, C MX11_trayFault [rV 20 66, iV x1] σ (.inl [iV v1]) σ ∧ (if (0 : Int) < ((upS σ 66 5 v1) 66 5) then (Xr [lV 0] (upS σ 66 5 v1)) else ((0 ≤ x1 ∧ x1 < 4) ∧ (∃ v2 : Int, C MX11_within [lV x2, lV 0, lV (w32 (((upS σ 66 5 v1) 78 (x1).toNat) - 1))] (upS σ 66 5 v1) (.inl [iV v2]) (upS σ 66 5 v1) ∧ (if v2 = 0 then (∃ v3 : Int, ∃ σ3 : Sg, C MX11_fails [rV 20 66, iV 3] (upS σ 66 5 v1) (.inl [iV v3]) σ3 ∧ (Xr [lV v3] σ3)) else (∃ v4 : Int, ∃ σ4 : Sg, C MX11_cut [rV 20 66, iV x1, iV x2, lV x3] (upS σ 66 5 v1) (.inl [lV v4]) σ4 ∧ (Xr [lV v4] σ4))))))) : X 0 [rV 20 66, iV x1, iV x2, lV x3, uV] [] σ := by
  refine st_aload_n (pc := 0) hC dX11_write_0 rfl (by decide) (by decide) ?_
  refine st_aload_n (pc := 1) hC dX11_write_1 rfl (by decide) (by decide) ?_
  refine st_iload_n (pc := 2) hC dX11_write_2 rfl ?_
  obtain ⟨v1, hq, h⟩ := h
  refine st_invV (As := [iV x1]) (v := [iV v1]) (S := [rV 20 66]) (pc := 3) hC dX11_write_3 cl_11_271 rfl rfl (Nat.le_of_ble_eq_true rfl) cr_X11_trayFault hq ?_
  refine st_putfI (ci := 10) (f := 5) (pc := 6) hC dX11_write_6 fl_11_64 rfl rfl ?_
  refine st_aload_n (pc := 9) hC dX11_write_9 rfl (by decide) (by decide) ?_
  refine st_getf (ci := 10) (f := 5) (v := iV ((upS σ 66 5 v1) 66 5)) (pc := 10) hC dX11_write_10 fl_11_64 rfl rfl ?_
  refine st_if_le (tg := 18) (pc := 13) hC dX11_write_13 (by decide) (ite_im h (fun h => ?_) (fun h => ?_))
  · refine st_lconst0 (pc := 16) hC dX11_write_16 ?_
    exact st_lreturn (pc := 17) hC dX11_write_17 h
  · refine st_iload_n (pc := 18) hC dX11_write_18 rfl ?_
    refine st_i2l (pc := 19) hC dX11_write_19 ?_
    refine st_lconst0 (pc := 20) hC dX11_write_20 ?_
    refine st_aload_n (pc := 21) hC dX11_write_21 rfl (by decide) (by decide) ?_
    refine st_getf (ci := 10) (f := 27) (v := rV 1000004 78) (pc := 22) hC dX11_write_22 fl_11_50 rfl rfl ?_
    refine st_iload_n (pc := 25) hC dX11_write_25 rfl ?_
    obtain ⟨hb, h⟩ := h
    refine st_iald (n := 4) (pc := 26) hC dX11_write_26 (by decide) hb ?_
    refine st_iconst (pc := 27) hC dX11_write_27 (by decide) ?_
    refine st_isub (pc := 28) hC dX11_write_28 ?_
    refine st_i2l (pc := 29) hC dX11_write_29 ?_
    obtain ⟨v2, hq, h⟩ := h
    refine st_invS (As := [lV x2, lV 0, lV (w32 (((upS σ 66 5 v1) 78 (x1).toNat) - 1))]) (v := [iV v2]) (S := []) (pc := 30) hC dX11_write_30 cl_11_133 rfl rfl (Nat.le_of_ble_eq_true rfl) hq ?_
    refine st_if_eq (tg := 46) (pc := 33) hC dX11_write_33 (by decide) (ite_im h (fun h => ?_) (fun h => ?_))
    · refine st_aload_n (pc := 46) hC dX11_write_46 rfl (by decide) (by decide) ?_
      refine st_iconst (pc := 47) hC dX11_write_47 (by decide) ?_
      obtain ⟨v3, σ3, hq, h⟩ := h
      refine st_invV (As := [iV 3]) (v := [iV v3]) (S := []) (pc := 48) hC dX11_write_48 cl_11_178 rfl rfl (Nat.le_of_ble_eq_true rfl) cr_X11_fails hq ?_
      refine st_i2l (pc := 51) hC dX11_write_51 ?_
      exact st_lreturn (pc := 52) hC dX11_write_52 h
    · refine st_aload_n (pc := 36) hC dX11_write_36 rfl (by decide) (by decide) ?_
      refine st_iload_n (pc := 37) hC dX11_write_37 rfl ?_
      refine st_iload_n (pc := 38) hC dX11_write_38 rfl ?_
      refine st_lload_n (pc := 39) hC dX11_write_39 rfl ?_
      obtain ⟨v4, σ4, hq, h⟩ := h
      refine st_invV (As := [iV x1, iV x2, lV x3]) (v := [lV v4]) (S := []) (pc := 40) hC dX11_write_40 cl_11_383 rfl rfl (Nat.le_of_ble_eq_true rfl) cr_X11_cut hq ?_
      refine st_goto (tg := 52) (pc := 43) hC dX11_write_43 (by decide) ?_
      exact st_lreturn (pc := 52) hC dX11_write_52 h
theorem bX11_pour_0 {C : Nat → List Vv → Sg → Rs → Sg → Prop} {X : Nat → List Vv → List Vv → Sg → Prop} {Xr : List Vv → Sg → Prop} {Xt : Nat → Sg → Prop} (hC : Clo C 11 cX11_pour (some .int) X Xr Xt) {x1 : Int} {σ : Sg} (h : ∃ v1 : Int, C MX11_trayFault [rV 20 66, iV x1] σ (.inl [iV v1]) σ ∧ (if (0 : Int) < ((upS σ 66 5 v1) 66 5) then (Xr [iV 0] (upS σ 66 5 v1)) else ((0 ≤ x1 ∧ x1 < 4) ∧ (∃ v2 : Int, C MX11_people [rV 20 66] (upS σ 66 5 v1) (.inl [iV v2]) (upS σ 66 5 v1) ∧ (X 34 [rV 20 66, iV x1, iV (min ((upS σ 66 5 v1) 78 (x1).toNat) v2), iV 0] [] (upS σ 66 5 v1)))))) : X 0 [rV 20 66, iV x1, uV, uV] [] σ := by
  refine st_aload_n (pc := 0) hC dX11_pour_0 rfl (by decide) (by decide) ?_
  refine st_aload_n (pc := 1) hC dX11_pour_1 rfl (by decide) (by decide) ?_
  refine st_iload_n (pc := 2) hC dX11_pour_2 rfl ?_
  obtain ⟨v1, hq, h⟩ := h
  refine st_invV (As := [iV x1]) (v := [iV v1]) (S := [rV 20 66]) (pc := 3) hC dX11_pour_3 cl_11_271 rfl rfl (Nat.le_of_ble_eq_true rfl) cr_X11_trayFault hq ?_
  refine st_putfI (ci := 10) (f := 5) (pc := 6) hC dX11_pour_6 fl_11_64 rfl rfl ?_
  refine st_aload_n (pc := 9) hC dX11_pour_9 rfl (by decide) (by decide) ?_
  refine st_getf (ci := 10) (f := 5) (v := iV ((upS σ 66 5 v1) 66 5)) (pc := 10) hC dX11_pour_10 fl_11_64 rfl rfl ?_
  refine st_if_le (tg := 18) (pc := 13) hC dX11_pour_13 (by decide) (ite_im h (fun h => ?_) (fun h => ?_))
  · refine st_iconst (pc := 16) hC dX11_pour_16 (by decide) ?_
    exact st_ireturn (pc := 17) hC dX11_pour_17 trivial h
  · refine st_aload_n (pc := 18) hC dX11_pour_18 rfl (by decide) (by decide) ?_
    refine st_getf (ci := 10) (f := 27) (v := rV 1000004 78) (pc := 19) hC dX11_pour_19 fl_11_50 rfl rfl ?_
    refine st_iload_n (pc := 22) hC dX11_pour_22 rfl ?_
    obtain ⟨hb, h⟩ := h
    refine st_iald (n := 4) (pc := 23) hC dX11_pour_23 (by decide) hb ?_
    refine st_aload_n (pc := 24) hC dX11_pour_24 rfl (by decide) (by decide) ?_
    obtain ⟨v2, hq, h⟩ := h
    refine st_invV (As := []) (v := [iV v2]) (S := [iV ((upS σ 66 5 v1) 78 (x1).toNat)]) (pc := 25) hC dX11_pour_25 cl_11_190 rfl rfl (Nat.le_of_ble_eq_true rfl) cr_X11_people hq ?_
    refine st_mmin (pc := 28) hC dX11_pour_28 rfl (Nat.le_of_ble_eq_true rfl) ?_
    refine st_istore_n (L2 := [rV 20 66, iV x1, iV (min ((upS σ 66 5 v1) 78 (x1).toNat) v2), uV]) (pc := 31) hC dX11_pour_31 (Nat.le_of_ble_eq_true rfl) rfl ?_
    refine st_iconst (pc := 32) hC dX11_pour_32 (by decide) ?_
    refine st_istore_n (L2 := [rV 20 66, iV x1, iV (min ((upS σ 66 5 v1) 78 (x1).toNat) v2), iV 0]) (pc := 33) hC dX11_pour_33 (Nat.le_of_ble_eq_true rfl) rfl ?_
    exact h
theorem bX11_pour_34 {C : Nat → List Vv → Sg → Rs → Sg → Prop} {X : Nat → List Vv → List Vv → Sg → Prop} {Xr : List Vv → Sg → Prop} {Xt : Nat → Sg → Prop} (hC : Clo C 11 cX11_pour (some .int) X Xr Xt) {x1 x2 x3 : Int} {σ : Sg} (h : if x3 < x2 then (∃ v1 : Int, C MX11_worthOf [rV 20 66, iV x3] σ (.inl [lV v1]) σ ∧ (∃ v2 : Int, ∃ σ2 : Sg, C MX11_cut [rV 20 66, iV x1, iV x3, lV v1] σ (.inl [lV v2]) σ2 ∧ (X 34 [rV 20 66, iV x1, iV x2, iV (w32 (x3 + 1))] [] σ2))) else (Xr [iV x2] σ)) : X 34 [rV 20 66, iV x1, iV x2, iV x3] [] σ := by
  refine st_iload_n (pc := 34) hC dX11_pour_34 rfl ?_
  refine st_iload_n (pc := 35) hC dX11_pour_35 rfl ?_
  refine st_icmp_ge (tg := 57) (pc := 36) hC dX11_pour_36 (by decide) (ite_im h (fun h => ?_) (fun h => ?_))
  · refine st_aload_n (pc := 39) hC dX11_pour_39 rfl (by decide) (by decide) ?_
    refine st_iload_n (pc := 40) hC dX11_pour_40 rfl ?_
    refine st_iload_n (pc := 41) hC dX11_pour_41 rfl ?_
    refine st_aload_n (pc := 42) hC dX11_pour_42 rfl (by decide) (by decide) ?_
    refine st_iload_n (pc := 43) hC dX11_pour_43 rfl ?_
    obtain ⟨v1, hq, h⟩ := h
    refine st_invV (As := [iV x3]) (v := [lV v1]) (S := [iV x3, iV x1, rV 20 66]) (pc := 44) hC dX11_pour_44 cl_11_220 rfl rfl (Nat.le_of_ble_eq_true rfl) cr_X11_worthOf hq ?_
    obtain ⟨v2, σ2, hq, h⟩ := h
    refine st_invV (As := [iV x1, iV x3, lV v1]) (v := [lV v2]) (S := []) (pc := 47) hC dX11_pour_47 cl_11_383 rfl rfl (Nat.le_of_ble_eq_true rfl) cr_X11_cut hq ?_
    refine st_pop2l (pc := 50) hC dX11_pour_50 ?_
    refine st_iinc (L2 := [rV 20 66, iV x1, iV x2, iV (w32 (x3 + 1))]) (pc := 51) hC dX11_pour_51 rfl (Nat.le_of_ble_eq_true rfl) rfl ?_
    refine st_goto (tg := 34) (pc := 54) hC dX11_pour_54 (by decide) ?_
    exact h
  · refine st_iload_n (pc := 57) hC dX11_pour_57 rfl ?_
    exact st_ireturn (pc := 58) hC dX11_pour_58 trivial h
theorem bX11_image_0 {C : Nat → List Vv → Sg → Rs → Sg → Prop} {X : Nat → List Vv → List Vv → Sg → Prop} {Xr : List Vv → Sg → Prop} {Xt : Nat → Sg → Prop} (hC : Clo C 11 cX11_image none X Xr Xt) {x1 : Int} {σ : Sg} (h : ∃ v1 : Int, C MX11_within [lV x1, lV 0, lV 2] σ (.inl [iV v1]) σ ∧ (if v1 = 0 then (if (0 : Int) < ((upS σ 66 5 1) 66 5) then (Xr [] (upS σ 66 5 1)) else ((0 ≤ x1 ∧ x1 < 3) ∧ (X 38 [rV 20 66, iV x1, iV 0] [] (upS (upS σ 66 5 1) 71 (x1).toNat 1)))) else (if (0 : Int) < ((upS σ 66 5 0) 66 5) then (Xr [] (upS σ 66 5 0)) else ((0 ≤ x1 ∧ x1 < 3) ∧ (X 38 [rV 20 66, iV x1, iV 0] [] (upS (upS σ 66 5 0) 71 (x1).toNat 1)))))) : X 0 [rV 20 66, iV x1, uV] [] σ := by
  refine st_aload_n (pc := 0) hC dX11_image_0 rfl (by decide) (by decide) ?_
  refine st_iload_n (pc := 1) hC dX11_image_1 rfl ?_
  refine st_i2l (pc := 2) hC dX11_image_2 ?_
  refine st_lconst0 (pc := 3) hC dX11_image_3 ?_
  refine st_ldc2 (pc := 4) hC dX11_image_4 rfl ?_
  obtain ⟨v1, hq, h⟩ := h
  refine st_invS (As := [lV x1, lV 0, lV 2]) (v := [iV v1]) (S := [rV 20 66]) (pc := 7) hC dX11_image_7 cl_11_133 rfl rfl (Nat.le_of_ble_eq_true rfl) hq ?_
  refine st_if_eq (tg := 17) (pc := 10) hC dX11_image_10 (by decide) (ite_im h (fun h => ?_) (fun h => ?_))
  · refine st_iconst (pc := 17) hC dX11_image_17 (by decide) ?_
    refine st_putfI (ci := 10) (f := 5) (pc := 18) hC dX11_image_18 fl_11_64 rfl rfl ?_
    refine st_aload_n (pc := 21) hC dX11_image_21 rfl (by decide) (by decide) ?_
    refine st_getf (ci := 10) (f := 5) (v := iV ((upS σ 66 5 1) 66 5)) (pc := 22) hC dX11_image_22 fl_11_64 rfl rfl ?_
    refine st_if_le (tg := 29) (pc := 25) hC dX11_image_25 (by decide) (ite_im h (fun h => ?_) (fun h => ?_))
    · exact st_return (pc := 28) hC dX11_image_28 h
    · refine st_aload_n (pc := 29) hC dX11_image_29 rfl (by decide) (by decide) ?_
      refine st_getf (ci := 10) (f := 4) (v := rV 3000003 71) (pc := 30) hC dX11_image_30 fl_11_22 rfl rfl ?_
      refine st_iload_n (pc := 33) hC dX11_image_33 rfl ?_
      refine st_iconst (pc := 34) hC dX11_image_34 (by decide) ?_
      obtain ⟨hb, h⟩ := h
      refine st_zast (n := 3) (pc := 35) hC dX11_image_35 (by decide) hb (Or.inr rfl) ?_
      refine st_iconst (pc := 36) hC dX11_image_36 (by decide) ?_
      refine st_istore_n (L2 := [rV 20 66, iV x1, iV 0]) (pc := 37) hC dX11_image_37 (Nat.le_of_ble_eq_true rfl) rfl ?_
      exact h
  · refine st_iconst (pc := 13) hC dX11_image_13 (by decide) ?_
    refine st_goto (tg := 18) (pc := 14) hC dX11_image_14 (by decide) ?_
    refine st_putfI (ci := 10) (f := 5) (pc := 18) hC dX11_image_18 fl_11_64 rfl rfl ?_
    refine st_aload_n (pc := 21) hC dX11_image_21 rfl (by decide) (by decide) ?_
    refine st_getf (ci := 10) (f := 5) (v := iV ((upS σ 66 5 0) 66 5)) (pc := 22) hC dX11_image_22 fl_11_64 rfl rfl ?_
    refine st_if_le (tg := 29) (pc := 25) hC dX11_image_25 (by decide) (ite_im h (fun h => ?_) (fun h => ?_))
    · exact st_return (pc := 28) hC dX11_image_28 h
    · refine st_aload_n (pc := 29) hC dX11_image_29 rfl (by decide) (by decide) ?_
      refine st_getf (ci := 10) (f := 4) (v := rV 3000003 71) (pc := 30) hC dX11_image_30 fl_11_22 rfl rfl ?_
      refine st_iload_n (pc := 33) hC dX11_image_33 rfl ?_
      refine st_iconst (pc := 34) hC dX11_image_34 (by decide) ?_
      obtain ⟨hb, h⟩ := h
      refine st_zast (n := 3) (pc := 35) hC dX11_image_35 (by decide) hb (Or.inr rfl) ?_
      refine st_iconst (pc := 36) hC dX11_image_36 (by decide) ?_
      refine st_istore_n (L2 := [rV 20 66, iV x1, iV 0]) (pc := 37) hC dX11_image_37 (Nat.le_of_ble_eq_true rfl) rfl ?_
      exact h
theorem bX11_image_38 {C : Nat → List Vv → Sg → Rs → Sg → Prop} {X : Nat → List Vv → List Vv → Sg → Prop} {Xr : List Vv → Sg → Prop} {Xt : Nat → Sg → Prop} (hC : Clo C 11 cX11_image none X Xr Xt) {x1 x2 : Int} {σ : Sg} (h : if x2 < 181 then ((0 ≤ x2 ∧ x2 < 181) ∧ ((0 ≤ (w32 ((w32 (181 * x1)) + x2)) ∧ (w32 ((w32 (181 * x1)) + x2)) < 543) ∧ (X 38 [rV 20 66, iV x1, iV (w32 (x2 + 1))] [] (upS σ 70 ((w32 ((w32 (181 * x1)) + x2))).toNat (σ 67 (x2).toNat))))) else (Xr [] σ)) : X 38 [rV 20 66, iV x1, iV x2] [] σ := by
  refine st_iload_n (pc := 38) hC dX11_image_38 rfl ?_
  refine st_sipush (pc := 39) hC dX11_image_39 (by decide) ?_
  refine st_icmp_ge (tg := 69) (pc := 42) hC dX11_image_42 (by decide) (ite_im h (fun h => ?_) (fun h => ?_))
  · refine st_aload_n (pc := 45) hC dX11_image_45 rfl (by decide) (by decide) ?_
    refine st_getf (ci := 10) (f := 3) (v := rV 1000543 70) (pc := 46) hC dX11_image_46 fl_11_19 rfl rfl ?_
    refine st_sipush (pc := 49) hC dX11_image_49 (by decide) ?_
    refine st_iload_n (pc := 52) hC dX11_image_52 rfl ?_
    refine st_imul (pc := 53) hC dX11_image_53 ?_
    refine st_iload_n (pc := 54) hC dX11_image_54 rfl ?_
    refine st_iadd (pc := 55) hC dX11_image_55 ?_
    refine st_aload_n (pc := 56) hC dX11_image_56 rfl (by decide) (by decide) ?_
    refine st_getf (ci := 10) (f := 0) (v := rV 1000181 67) (pc := 57) hC dX11_image_57 fl_11_9 rfl rfl ?_
    refine st_iload_n (pc := 60) hC dX11_image_60 rfl ?_
    obtain ⟨hb, h⟩ := h
    refine st_iald (n := 181) (pc := 61) hC dX11_image_61 (by decide) hb ?_
    obtain ⟨hb, h⟩ := h
    refine st_iast (n := 543) (pc := 62) hC dX11_image_62 (by decide) hb ?_
    refine st_iinc (L2 := [rV 20 66, iV x1, iV (w32 (x2 + 1))]) (pc := 63) hC dX11_image_63 rfl (Nat.le_of_ble_eq_true rfl) rfl ?_
    refine st_goto (tg := 38) (pc := 66) hC dX11_image_66 (by decide) ?_
    exact h
  · exact st_return (pc := 69) hC dX11_image_69 h
theorem bX11_restore_0 {C : Nat → List Vv → Sg → Rs → Sg → Prop} {X : Nat → List Vv → List Vv → Sg → Prop} {Xr : List Vv → Sg → Prop} {Xt : Nat → Sg → Prop} (hC : Clo C 11 cX11_restore none X Xr Xt) {x1 : Int} {σ : Sg} (h : ∃ v1 : Int, C MX11_within [lV x1, lV 0, lV 2] σ (.inl [iV v1]) σ ∧ (if v1 = 0 then (if (0 : Int) < ((upS σ 66 5 1) 66 5) then (Xr [] (upS σ 66 5 1)) else (X 44 [rV 20 66, iV x1, iV 0] [] (upS σ 66 5 1))) else ((0 ≤ x1 ∧ x1 < 3) ∧ (if (σ 71 (x1).toNat) = 0 then (if (0 : Int) < ((upS σ 66 5 2) 66 5) then (Xr [] (upS σ 66 5 2)) else (X 44 [rV 20 66, iV x1, iV 0] [] (upS σ 66 5 2))) else (if (0 : Int) < ((upS σ 66 5 0) 66 5) then (Xr [] (upS σ 66 5 0)) else (X 44 [rV 20 66, iV x1, iV 0] [] (upS σ 66 5 0))))))) : X 0 [rV 20 66, iV x1, uV] [] σ := by
  refine st_aload_n (pc := 0) hC dX11_restore_0 rfl (by decide) (by decide) ?_
  refine st_iload_n (pc := 1) hC dX11_restore_1 rfl ?_
  refine st_i2l (pc := 2) hC dX11_restore_2 ?_
  refine st_lconst0 (pc := 3) hC dX11_restore_3 ?_
  refine st_ldc2 (pc := 4) hC dX11_restore_4 rfl ?_
  obtain ⟨v1, hq, h⟩ := h
  refine st_invS (As := [lV x1, lV 0, lV 2]) (v := [iV v1]) (S := [rV 20 66]) (pc := 7) hC dX11_restore_7 cl_11_133 rfl rfl (Nat.le_of_ble_eq_true rfl) hq ?_
  refine st_if_ne (tg := 17) (pc := 10) hC dX11_restore_10 (by decide) (ite_im h (fun h => ?_) (fun h => ?_))
  · refine st_iconst (pc := 13) hC dX11_restore_13 (by decide) ?_
    refine st_goto (tg := 31) (pc := 14) hC dX11_restore_14 (by decide) ?_
    refine st_putfI (ci := 10) (f := 5) (pc := 31) hC dX11_restore_31 fl_11_64 rfl rfl ?_
    refine st_aload_n (pc := 34) hC dX11_restore_34 rfl (by decide) (by decide) ?_
    refine st_getf (ci := 10) (f := 5) (v := iV ((upS σ 66 5 1) 66 5)) (pc := 35) hC dX11_restore_35 fl_11_64 rfl rfl ?_
    refine st_if_le (tg := 42) (pc := 38) hC dX11_restore_38 (by decide) (ite_im h (fun h => ?_) (fun h => ?_))
    · exact st_return (pc := 41) hC dX11_restore_41 h
    · refine st_iconst (pc := 42) hC dX11_restore_42 (by decide) ?_
      refine st_istore_n (L2 := [rV 20 66, iV x1, iV 0]) (pc := 43) hC dX11_restore_43 (Nat.le_of_ble_eq_true rfl) rfl ?_
      exact h
  · refine st_aload_n (pc := 17) hC dX11_restore_17 rfl (by decide) (by decide) ?_
    refine st_getf (ci := 10) (f := 4) (v := rV 3000003 71) (pc := 18) hC dX11_restore_18 fl_11_22 rfl rfl ?_
    refine st_iload_n (pc := 21) hC dX11_restore_21 rfl ?_
    obtain ⟨hb, h⟩ := h
    refine st_zald (n := 3) (pc := 22) hC dX11_restore_22 (by decide) hb ?_
    refine st_if_ne (tg := 30) (pc := 23) hC dX11_restore_23 (by decide) (ite_im h (fun h => ?_) (fun h => ?_))
    · refine st_iconst (pc := 26) hC dX11_restore_26 (by decide) ?_
      refine st_goto (tg := 31) (pc := 27) hC dX11_restore_27 (by decide) ?_
      refine st_putfI (ci := 10) (f := 5) (pc := 31) hC dX11_restore_31 fl_11_64 rfl rfl ?_
      refine st_aload_n (pc := 34) hC dX11_restore_34 rfl (by decide) (by decide) ?_
      refine st_getf (ci := 10) (f := 5) (v := iV ((upS σ 66 5 2) 66 5)) (pc := 35) hC dX11_restore_35 fl_11_64 rfl rfl ?_
      refine st_if_le (tg := 42) (pc := 38) hC dX11_restore_38 (by decide) (ite_im h (fun h => ?_) (fun h => ?_))
      · exact st_return (pc := 41) hC dX11_restore_41 h
      · refine st_iconst (pc := 42) hC dX11_restore_42 (by decide) ?_
        refine st_istore_n (L2 := [rV 20 66, iV x1, iV 0]) (pc := 43) hC dX11_restore_43 (Nat.le_of_ble_eq_true rfl) rfl ?_
        exact h
    · refine st_iconst (pc := 30) hC dX11_restore_30 (by decide) ?_
      refine st_putfI (ci := 10) (f := 5) (pc := 31) hC dX11_restore_31 fl_11_64 rfl rfl ?_
      refine st_aload_n (pc := 34) hC dX11_restore_34 rfl (by decide) (by decide) ?_
      refine st_getf (ci := 10) (f := 5) (v := iV ((upS σ 66 5 0) 66 5)) (pc := 35) hC dX11_restore_35 fl_11_64 rfl rfl ?_
      refine st_if_le (tg := 42) (pc := 38) hC dX11_restore_38 (by decide) (ite_im h (fun h => ?_) (fun h => ?_))
      · exact st_return (pc := 41) hC dX11_restore_41 h
      · refine st_iconst (pc := 42) hC dX11_restore_42 (by decide) ?_
        refine st_istore_n (L2 := [rV 20 66, iV x1, iV 0]) (pc := 43) hC dX11_restore_43 (Nat.le_of_ble_eq_true rfl) rfl ?_
        exact h
theorem bX11_restore_44 {C : Nat → List Vv → Sg → Rs → Sg → Prop} {X : Nat → List Vv → List Vv → Sg → Prop} {Xr : List Vv → Sg → Prop} {Xt : Nat → Sg → Prop} (hC : Clo C 11 cX11_restore none X Xr Xt) {x1 x2 : Int} {σ : Sg} (h : if x2 < 181 then ((0 ≤ (w32 ((w32 (181 * x1)) + x2)) ∧ (w32 ((w32 (181 * x1)) + x2)) < 543) ∧ ((0 ≤ x2 ∧ x2 < 181) ∧ (X 44 [rV 20 66, iV x1, iV (w32 (x2 + 1))] [] (upS σ 67 (x2).toNat (σ 70 ((w32 ((w32 (181 * x1)) + x2))).toNat))))) else (Xr [] σ)) : X 44 [rV 20 66, iV x1, iV x2] [] σ := by
  refine st_iload_n (pc := 44) hC dX11_restore_44 rfl ?_
  refine st_sipush (pc := 45) hC dX11_restore_45 (by decide) ?_
  refine st_icmp_ge (tg := 75) (pc := 48) hC dX11_restore_48 (by decide) (ite_im h (fun h => ?_) (fun h => ?_))
  · refine st_aload_n (pc := 51) hC dX11_restore_51 rfl (by decide) (by decide) ?_
    refine st_getf (ci := 10) (f := 0) (v := rV 1000181 67) (pc := 52) hC dX11_restore_52 fl_11_9 rfl rfl ?_
    refine st_iload_n (pc := 55) hC dX11_restore_55 rfl ?_
    refine st_aload_n (pc := 56) hC dX11_restore_56 rfl (by decide) (by decide) ?_
    refine st_getf (ci := 10) (f := 3) (v := rV 1000543 70) (pc := 57) hC dX11_restore_57 fl_11_19 rfl rfl ?_
    refine st_sipush (pc := 60) hC dX11_restore_60 (by decide) ?_
    refine st_iload_n (pc := 63) hC dX11_restore_63 rfl ?_
    refine st_imul (pc := 64) hC dX11_restore_64 ?_
    refine st_iload_n (pc := 65) hC dX11_restore_65 rfl ?_
    refine st_iadd (pc := 66) hC dX11_restore_66 ?_
    obtain ⟨hb, h⟩ := h
    refine st_iald (n := 543) (pc := 67) hC dX11_restore_67 (by decide) hb ?_
    obtain ⟨hb, h⟩ := h
    refine st_iast (n := 181) (pc := 68) hC dX11_restore_68 (by decide) hb ?_
    refine st_iinc (L2 := [rV 20 66, iV x1, iV (w32 (x2 + 1))]) (pc := 69) hC dX11_restore_69 rfl (Nat.le_of_ble_eq_true rfl) rfl ?_
    refine st_goto (tg := 44) (pc := 72) hC dX11_restore_72 (by decide) ?_
    exact h
  · exact st_return (pc := 75) hC dX11_restore_75 h
theorem bX11_count_0 {C : Nat → List Vv → Sg → Rs → Sg → Prop} {X : Nat → List Vv → List Vv → Sg → Prop} {Xr : List Vv → Sg → Prop} {Xt : Nat → Sg → Prop} (hC : Clo C 11 cX11_count (some .int) X Xr Xt) {x1 : Int} {σ : Sg} (h : X 15 [rV 20 66, iV x1, iV 0, iV 0, iV 0, iV 0, uV] [] (upS σ 66 5 0)) : X 0 [rV 20 66, iV x1, uV, uV, uV, uV, uV] [] σ := by
  refine st_aload_n (pc := 0) hC dX11_count_0 rfl (by decide) (by decide) ?_
  refine st_iconst (pc := 1) hC dX11_count_1 (by decide) ?_
  refine st_putfI (ci := 10) (f := 5) (pc := 2) hC dX11_count_2 fl_11_64 rfl rfl ?_
  refine st_iconst (pc := 5) hC dX11_count_5 (by decide) ?_
  refine st_istore_n (L2 := [rV 20 66, iV x1, iV 0, uV, uV, uV, uV]) (pc := 6) hC dX11_count_6 (Nat.le_of_ble_eq_true rfl) rfl ?_
  refine st_iconst (pc := 7) hC dX11_count_7 (by decide) ?_
  refine st_istore_n (L2 := [rV 20 66, iV x1, iV 0, iV 0, uV, uV, uV]) (pc := 8) hC dX11_count_8 (Nat.le_of_ble_eq_true rfl) rfl ?_
  refine st_iconst (pc := 9) hC dX11_count_9 (by decide) ?_
  refine st_istore (L2 := [rV 20 66, iV x1, iV 0, iV 0, iV 0, uV, uV]) (pc := 10) hC dX11_count_10 (Nat.le_of_ble_eq_true rfl) rfl ?_
  refine st_iconst (pc := 12) hC dX11_count_12 (by decide) ?_
  refine st_istore (L2 := [rV 20 66, iV x1, iV 0, iV 0, iV 0, iV 0, uV]) (pc := 13) hC dX11_count_13 (Nat.le_of_ble_eq_true rfl) rfl ?_
  exact h
theorem bX11_count_15 {C : Nat → List Vv → Sg → Rs → Sg → Prop} {X : Nat → List Vv → List Vv → Sg → Prop} {Xr : List Vv → Sg → Prop} {Xt : Nat → Sg → Prop} (hC : Clo C 11 cX11_count (some .int) X Xr Xt) {x1 x2 x3 x4 x5 : Int} {σ : Sg} (h : ∃ v1 : Int, C MX11_people [rV 20 66] σ (.inl [iV v1]) σ ∧ (if x5 < v1 then (∃ v2 : Int, C MX11_size [rV 20 66, iV x5] σ (.inl [iV v2]) σ ∧ (X 15 [rV 20 66, iV x1, iV (w32 (x2 + v2)), iV x3, iV x4, iV (w32 (x5 + 1)), uV] [] σ)) else (X 42 [rV 20 66, iV x1, iV x2, iV x3, iV x4, iV 0, uV] [] σ))) : X 15 [rV 20 66, iV x1, iV x2, iV x3, iV x4, iV x5, uV] [] σ := by
  refine st_iload (pc := 15) hC dX11_count_15 rfl ?_
  refine st_aload_n (pc := 17) hC dX11_count_17 rfl (by decide) (by decide) ?_
  obtain ⟨v1, hq, h⟩ := h
  refine st_invV (As := []) (v := [iV v1]) (S := [iV x5]) (pc := 18) hC dX11_count_18 cl_11_190 rfl rfl (Nat.le_of_ble_eq_true rfl) cr_X11_people hq ?_
  refine st_icmp_ge (tg := 39) (pc := 21) hC dX11_count_21 (by decide) (ite_im h (fun h => ?_) (fun h => ?_))
  · refine st_iload_n (pc := 24) hC dX11_count_24 rfl ?_
    refine st_aload_n (pc := 25) hC dX11_count_25 rfl (by decide) (by decide) ?_
    refine st_iload (pc := 26) hC dX11_count_26 rfl ?_
    obtain ⟨v2, hq, h⟩ := h
    refine st_invV (As := [iV x5]) (v := [iV v2]) (S := [iV x2]) (pc := 28) hC dX11_count_28 cl_11_217 rfl rfl (Nat.le_of_ble_eq_true rfl) cr_X11_size hq ?_
    refine st_iadd (pc := 31) hC dX11_count_31 ?_
    refine st_istore_n (L2 := [rV 20 66, iV x1, iV (w32 (x2 + v2)), iV x3, iV x4, iV x5, uV]) (pc := 32) hC dX11_count_32 (Nat.le_of_ble_eq_true rfl) rfl ?_
    refine st_iinc (L2 := [rV 20 66, iV x1, iV (w32 (x2 + v2)), iV x3, iV x4, iV (w32 (x5 + 1)), uV]) (pc := 33) hC dX11_count_33 rfl (Nat.le_of_ble_eq_true rfl) rfl ?_
    refine st_goto (tg := 15) (pc := 36) hC dX11_count_36 (by decide) ?_
    exact h
  · refine st_iconst (pc := 39) hC dX11_count_39 (by decide) ?_
    refine st_istore (L2 := [rV 20 66, iV x1, iV x2, iV x3, iV x4, iV 0, uV]) (pc := 40) hC dX11_count_40 (Nat.le_of_ble_eq_true rfl) rfl ?_
    exact h
theorem bX11_count_42 {C : Nat → List Vv → Sg → Rs → Sg → Prop} {X : Nat → List Vv → List Vv → Sg → Prop} {Xr : List Vv → Sg → Prop} {Xt : Nat → Sg → Prop} (hC : Clo C 11 cX11_count (some .int) X Xr Xt) {x1 x2 x3 x4 x5 : Int} {σ : Sg} (h : ∃ v1 : Int, C MX11_coins [rV 20 66] σ (.inl [iV v1]) σ ∧ (if x5 < v1 then ((0 ≤ (w32 (148 + x5)) ∧ (w32 (148 + x5)) < 181) ∧ (X 42 [rV 20 66, iV x1, iV x2, iV (w32 (x3 + (σ 67 ((w32 (148 + x5))).toNat))), iV x4, iV (w32 (x5 + 1)), uV] [] σ)) else (X 74 [rV 20 66, iV x1, iV x2, iV x3, iV x4, iV 0, uV] [] σ))) : X 42 [rV 20 66, iV x1, iV x2, iV x3, iV x4, iV x5, uV] [] σ := by
  refine st_iload (pc := 42) hC dX11_count_42 rfl ?_
  refine st_aload_n (pc := 44) hC dX11_count_44 rfl (by decide) (by decide) ?_
  obtain ⟨v1, hq, h⟩ := h
  refine st_invV (As := []) (v := [iV v1]) (S := [iV x5]) (pc := 45) hC dX11_count_45 cl_11_193 rfl rfl (Nat.le_of_ble_eq_true rfl) cr_X11_coins hq ?_
  refine st_icmp_ge (tg := 71) (pc := 48) hC dX11_count_48 (by decide) (ite_im h (fun h => ?_) (fun h => ?_))
  · refine st_iload_n (pc := 51) hC dX11_count_51 rfl ?_
    refine st_aload_n (pc := 52) hC dX11_count_52 rfl (by decide) (by decide) ?_
    refine st_getf (ci := 10) (f := 0) (v := rV 1000181 67) (pc := 53) hC dX11_count_53 fl_11_9 rfl rfl ?_
    refine st_sipush (pc := 56) hC dX11_count_56 (by decide) ?_
    refine st_iload (pc := 59) hC dX11_count_59 rfl ?_
    refine st_iadd (pc := 61) hC dX11_count_61 ?_
    obtain ⟨hb, h⟩ := h
    refine st_iald (n := 181) (pc := 62) hC dX11_count_62 (by decide) hb ?_
    refine st_iadd (pc := 63) hC dX11_count_63 ?_
    refine st_istore_n (L2 := [rV 20 66, iV x1, iV x2, iV (w32 (x3 + (σ 67 ((w32 (148 + x5))).toNat))), iV x4, iV x5, uV]) (pc := 64) hC dX11_count_64 (Nat.le_of_ble_eq_true rfl) rfl ?_
    refine st_iinc (L2 := [rV 20 66, iV x1, iV x2, iV (w32 (x3 + (σ 67 ((w32 (148 + x5))).toNat))), iV x4, iV (w32 (x5 + 1)), uV]) (pc := 65) hC dX11_count_65 rfl (Nat.le_of_ble_eq_true rfl) rfl ?_
    refine st_goto (tg := 42) (pc := 68) hC dX11_count_68 (by decide) ?_
    exact h
  · refine st_iconst (pc := 71) hC dX11_count_71 (by decide) ?_
    refine st_istore (L2 := [rV 20 66, iV x1, iV x2, iV x3, iV x4, iV 0, uV]) (pc := 72) hC dX11_count_72 (Nat.le_of_ble_eq_true rfl) rfl ?_
    exact h
theorem bX11_count_74 {C : Nat → List Vv → Sg → Rs → Sg → Prop} {X : Nat → List Vv → List Vv → Sg → Prop} {Xr : List Vv → Sg → Prop} {Xt : Nat → Sg → Prop} (hC : Clo C 11 cX11_count (some .int) X Xr Xt) {x1 x2 x3 x4 x5 : Int} {σ : Sg} (h : ∃ v1 : Int, C MX11_people [rV 20 66] σ (.inl [iV v1]) σ ∧ (if x5 < v1 then (X 86 [rV 20 66, iV x1, iV x2, iV x3, iV x4, iV x5, iV 0] [] σ) else (if x1 = 0 then (Xr [iV (σ 67 0)] σ) else (if x1 = 1 then (∃ v2 : Int, C MX11_coins [rV 20 66] σ (.inl [iV v2]) σ ∧ (Xr [iV v2] σ)) else (if x1 = 2 then (∃ v3 : Int, C MX11_people [rV 20 66] σ (.inl [iV v3]) σ ∧ (Xr [iV v3] σ)) else (if x1 = 3 then (Xr [iV (σ 67 3)] σ) else (if x1 = 4 then (Xr [iV x2] σ) else (if x1 = 5 then (Xr [iV x3] σ) else (if x1 = 6 then (Xr [iV x4] σ) else (if x1 = 7 then (Xr [iV (σ 66 7)] σ) else (Xr [iV (-1)] σ))))))))))) : X 74 [rV 20 66, iV x1, iV x2, iV x3, iV x4, iV x5, uV] [] σ := by
  refine st_iload (pc := 74) hC dX11_count_74 rfl ?_
  refine st_aload_n (pc := 76) hC dX11_count_76 rfl (by decide) (by decide) ?_
  obtain ⟨v1, hq, h⟩ := h
  refine st_invV (As := []) (v := [iV v1]) (S := [iV x5]) (pc := 77) hC dX11_count_77 cl_11_190 rfl rfl (Nat.le_of_ble_eq_true rfl) cr_X11_people hq ?_
  refine st_icmp_ge (tg := 129) (pc := 80) hC dX11_count_80 (by decide) (ite_im h (fun h => ?_) (fun h => ?_))
  · refine st_iconst (pc := 83) hC dX11_count_83 (by decide) ?_
    refine st_istore (L2 := [rV 20 66, iV x1, iV x2, iV x3, iV x4, iV x5, iV 0]) (pc := 84) hC dX11_count_84 (Nat.le_of_ble_eq_true rfl) rfl ?_
    exact h
  · refine st_iload_n (pc := 129) hC dX11_count_129 rfl ?_
    refine st_tsw8 (t0 := 176) (t1 := 183) (t2 := 188) (t3 := 193) (t4 := 200) (t5 := 202) (t6 := 204) (t7 := 207) (td := 212) (pc := 130) hC dX11_count_130 (by decide) (by decide) (by decide) (by decide) (by decide) (by decide) (by decide) (by decide) (by decide) (ite_im h (fun h => ?_) (fun h => ite_im h (fun h => ?_) (fun h => ite_im h (fun h => ?_) (fun h => ite_im h (fun h => ?_) (fun h => ite_im h (fun h => ?_) (fun h => ite_im h (fun h => ?_) (fun h => ite_im h (fun h => ?_) (fun h => ite_im h (fun h => ?_) (fun h => ?_)))))))))
    · refine st_aload_n (pc := 176) hC dX11_count_176 rfl (by decide) (by decide) ?_
      refine st_getf (ci := 10) (f := 0) (v := rV 1000181 67) (pc := 177) hC dX11_count_177 fl_11_9 rfl rfl ?_
      refine st_iconst (pc := 180) hC dX11_count_180 (by decide) ?_
      refine st_iald (n := 181) (pc := 181) hC dX11_count_181 (by decide) ⟨by decide, by decide⟩ ?_
      exact st_ireturn (pc := 182) hC dX11_count_182 trivial h
    · refine st_aload_n (pc := 183) hC dX11_count_183 rfl (by decide) (by decide) ?_
      obtain ⟨v2, hq, h⟩ := h
      refine st_invV (As := []) (v := [iV v2]) (S := []) (pc := 184) hC dX11_count_184 cl_11_193 rfl rfl (Nat.le_of_ble_eq_true rfl) cr_X11_coins hq ?_
      exact st_ireturn (pc := 187) hC dX11_count_187 trivial h
    · refine st_aload_n (pc := 188) hC dX11_count_188 rfl (by decide) (by decide) ?_
      obtain ⟨v3, hq, h⟩ := h
      refine st_invV (As := []) (v := [iV v3]) (S := []) (pc := 189) hC dX11_count_189 cl_11_190 rfl rfl (Nat.le_of_ble_eq_true rfl) cr_X11_people hq ?_
      exact st_ireturn (pc := 192) hC dX11_count_192 trivial h
    · refine st_aload_n (pc := 193) hC dX11_count_193 rfl (by decide) (by decide) ?_
      refine st_getf (ci := 10) (f := 0) (v := rV 1000181 67) (pc := 194) hC dX11_count_194 fl_11_9 rfl rfl ?_
      refine st_iconst (pc := 197) hC dX11_count_197 (by decide) ?_
      refine st_iald (n := 181) (pc := 198) hC dX11_count_198 (by decide) ⟨by decide, by decide⟩ ?_
      exact st_ireturn (pc := 199) hC dX11_count_199 trivial h
    · refine st_iload_n (pc := 200) hC dX11_count_200 rfl ?_
      exact st_ireturn (pc := 201) hC dX11_count_201 trivial h
    · refine st_iload_n (pc := 202) hC dX11_count_202 rfl ?_
      exact st_ireturn (pc := 203) hC dX11_count_203 trivial h
    · refine st_iload (pc := 204) hC dX11_count_204 rfl ?_
      exact st_ireturn (pc := 206) hC dX11_count_206 trivial h
    · refine st_aload_n (pc := 207) hC dX11_count_207 rfl (by decide) (by decide) ?_
      refine st_getf (ci := 10) (f := 7) (v := iV (σ 66 7)) (pc := 208) hC dX11_count_208 fl_11_67 rfl rfl ?_
      exact st_ireturn (pc := 211) hC dX11_count_211 trivial h
    · refine st_iconst (pc := 212) hC dX11_count_212 (by decide) ?_
      exact st_ireturn (pc := 213) hC dX11_count_213 trivial h
theorem bX11_count_86 {C : Nat → List Vv → Sg → Rs → Sg → Prop} {X : Nat → List Vv → List Vv → Sg → Prop} {Xr : List Vv → Sg → Prop} {Xt : Nat → Sg → Prop} (hC : Clo C 11 cX11_count (some .int) X Xr Xt) {x1 x2 x3 x4 x5 x6 : Int} {σ : Sg} (h : ∃ v1 : Int, C MX11_people [rV 20 66] σ (.inl [iV v1]) σ ∧ (if x6 < v1 then (∃ v2 : Int, C MX11_debt [rV 20 66, iV x5, iV x6] σ (.inl [iV v2]) σ ∧ (if (1 : Int) < v2 then (X 86 [rV 20 66, iV x1, iV x2, iV x3, iV (w32 (x4 + 1)), iV x5, iV (w32 (x6 + 1))] [] σ) else (X 86 [rV 20 66, iV x1, iV x2, iV x3, iV (w32 (x4 + 0)), iV x5, iV (w32 (x6 + 1))] [] σ))) else (X 74 [rV 20 66, iV x1, iV x2, iV x3, iV x4, iV (w32 (x5 + 1)), uV] [] σ))) : X 86 [rV 20 66, iV x1, iV x2, iV x3, iV x4, iV x5, iV x6] [] σ := by
  refine st_iload (pc := 86) hC dX11_count_86 rfl ?_
  refine st_aload_n (pc := 88) hC dX11_count_88 rfl (by decide) (by decide) ?_
  obtain ⟨v1, hq, h⟩ := h
  refine st_invV (As := []) (v := [iV v1]) (S := [iV x6]) (pc := 89) hC dX11_count_89 cl_11_190 rfl rfl (Nat.le_of_ble_eq_true rfl) cr_X11_people hq ?_
  refine st_icmp_ge (tg := 123) (pc := 92) hC dX11_count_92 (by decide) (ite_im h (fun h => ?_) (fun h => ?_))
  · refine st_iload (pc := 95) hC dX11_count_95 rfl ?_
    refine st_aload_n (pc := 97) hC dX11_count_97 rfl (by decide) (by decide) ?_
    refine st_iload (pc := 98) hC dX11_count_98 rfl ?_
    refine st_iload (pc := 100) hC dX11_count_100 rfl ?_
    obtain ⟨v2, hq, h⟩ := h
    refine st_invV (As := [iV x5, iV x6]) (v := [iV v2]) (S := [iV x4]) (pc := 102) hC dX11_count_102 cl_11_371 rfl rfl (Nat.le_of_ble_eq_true rfl) cr_X11_debt hq ?_
    refine st_iconst (pc := 105) hC dX11_count_105 (by decide) ?_
    refine st_icmp_le (tg := 113) (pc := 106) hC dX11_count_106 (by decide) (ite_im h (fun h => ?_) (fun h => ?_))
    · refine st_iconst (pc := 109) hC dX11_count_109 (by decide) ?_
      refine st_goto (tg := 114) (pc := 110) hC dX11_count_110 (by decide) ?_
      refine st_iadd (pc := 114) hC dX11_count_114 ?_
      refine st_istore (L2 := [rV 20 66, iV x1, iV x2, iV x3, iV (w32 (x4 + 1)), iV x5, iV x6]) (pc := 115) hC dX11_count_115 (Nat.le_of_ble_eq_true rfl) rfl ?_
      refine st_iinc (L2 := [rV 20 66, iV x1, iV x2, iV x3, iV (w32 (x4 + 1)), iV x5, iV (w32 (x6 + 1))]) (pc := 117) hC dX11_count_117 rfl (Nat.le_of_ble_eq_true rfl) rfl ?_
      refine st_goto (tg := 86) (pc := 120) hC dX11_count_120 (by decide) ?_
      exact h
    · refine st_iconst (pc := 113) hC dX11_count_113 (by decide) ?_
      refine st_iadd (pc := 114) hC dX11_count_114 ?_
      refine st_istore (L2 := [rV 20 66, iV x1, iV x2, iV x3, iV (w32 (x4 + 0)), iV x5, iV x6]) (pc := 115) hC dX11_count_115 (Nat.le_of_ble_eq_true rfl) rfl ?_
      refine st_iinc (L2 := [rV 20 66, iV x1, iV x2, iV x3, iV (w32 (x4 + 0)), iV x5, iV (w32 (x6 + 1))]) (pc := 117) hC dX11_count_117 rfl (Nat.le_of_ble_eq_true rfl) rfl ?_
      refine st_goto (tg := 86) (pc := 120) hC dX11_count_120 (by decide) ?_
      exact h
  · refine st_iinc (L2 := [rV 20 66, iV x1, iV x2, iV x3, iV x4, iV (w32 (x5 + 1)), iV x6]) (pc := 123) hC dX11_count_123 rfl (Nat.le_of_ble_eq_true rfl) rfl ?_
    refine st_goto (tg := 74) (pc := 126) hC dX11_count_126 (by decide) ?_
    exact st_fg (L2 := [rV 20 66, iV x1, iV x2, iV x3, iV x4, iV (w32 (x5 + 1)), uV]) hC ⟨Or.inl rfl, Or.inl rfl, Or.inl rfl, Or.inl rfl, Or.inl rfl, Or.inl rfl, Or.inr rfl, trivial⟩ h
