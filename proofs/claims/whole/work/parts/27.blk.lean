theorem bX0_seek_0 {C : Nat → List Vv → Sg → Rs → Sg → Prop} {X : Nat → List Vv → List Vv → Sg → Prop} {Xr : List Vv → Sg → Prop} {Xt : Nat → Sg → Prop} (hC : Clo C 0 cX0_seek (some .long) X Xr Xt) {x3 x4 : Int} {t1 t2 : Nat} {σ : Sg} (h : ∃ σ1 : Sg, C MJ7_fill_53178 [rV 1000004 64, iV 0] σ (.inl []) σ1 ∧ (if (0 : Int) < (σ1 t1 1) then (X 28 [rV 10 63, rV 17 t1, rV 18 t2, iV x3, iV x4, iV 0, iV 1, iV 0, uV, uV] [] σ1) else (X 28 [rV 10 63, rV 17 t1, rV 18 t2, iV x3, iV x4, iV 0, iV 0, iV 0, uV, uV] [] σ1))) : X 0 [rV 10 63, rV 17 t1, rV 18 t2, iV x3, iV x4, uV, uV, uV, uV, uV] [] σ := by
  refine st_aload_n (pc := 0) hC dX0_seek_0 rfl (by decide) (by decide) ?_
  refine st_getf (ci := 0) (f := 0) (v := rV 1000004 64) (pc := 1) hC dX0_seek_1 fl_0_11 rfl rfl ?_
  refine st_iconst (pc := 4) hC dX0_seek_4 (by decide) ?_
  obtain ⟨σ1, hq, h⟩ := h
  refine st_invS (As := [rV 1000004 64, iV 0]) (v := []) (S := []) (pc := 5) hC dX0_seek_5 cl_0_15 rfl rfl (Nat.le_of_ble_eq_true rfl) hq ?_
  refine st_iconst (pc := 8) hC dX0_seek_8 (by decide) ?_
  refine st_istore (L2 := [rV 10 63, rV 17 t1, rV 18 t2, iV x3, iV x4, iV 0, uV, uV, uV, uV]) (pc := 9) hC dX0_seek_9 (Nat.le_of_ble_eq_true rfl) rfl ?_
  refine st_aload_n (pc := 11) hC dX0_seek_11 rfl (by decide) (by decide) ?_
  refine st_getf (ci := 7) (f := 1) (v := iV (σ1 t1 1)) (pc := 12) hC dX0_seek_12 fl_0_21 rfl rfl ?_
  refine st_if_le (tg := 22) (pc := 15) hC dX0_seek_15 (by decide) (ite_im h (fun h => ?_) (fun h => ?_))
  · refine st_iconst (pc := 18) hC dX0_seek_18 (by decide) ?_
    refine st_goto (tg := 23) (pc := 19) hC dX0_seek_19 (by decide) ?_
    refine st_istore (L2 := [rV 10 63, rV 17 t1, rV 18 t2, iV x3, iV x4, iV 0, iV 1, uV, uV, uV]) (pc := 23) hC dX0_seek_23 (Nat.le_of_ble_eq_true rfl) rfl ?_
    refine st_iconst (pc := 25) hC dX0_seek_25 (by decide) ?_
    refine st_istore (L2 := [rV 10 63, rV 17 t1, rV 18 t2, iV x3, iV x4, iV 0, iV 1, iV 0, uV, uV]) (pc := 26) hC dX0_seek_26 (Nat.le_of_ble_eq_true rfl) rfl ?_
    exact h
  · refine st_iconst (pc := 22) hC dX0_seek_22 (by decide) ?_
    refine st_istore (L2 := [rV 10 63, rV 17 t1, rV 18 t2, iV x3, iV x4, iV 0, iV 0, uV, uV, uV]) (pc := 23) hC dX0_seek_23 (Nat.le_of_ble_eq_true rfl) rfl ?_
    refine st_iconst (pc := 25) hC dX0_seek_25 (by decide) ?_
    refine st_istore (L2 := [rV 10 63, rV 17 t1, rV 18 t2, iV x3, iV x4, iV 0, iV 0, iV 0, uV, uV]) (pc := 26) hC dX0_seek_26 (Nat.le_of_ble_eq_true rfl) rfl ?_
    exact h
theorem bX0_seek_28 {C : Nat → List Vv → Sg → Rs → Sg → Prop} {X : Nat → List Vv → List Vv → Sg → Prop} {Xr : List Vv → Sg → Prop} {Xt : Nat → Sg → Prop} (hC : Clo C 0 cX0_seek (some .long) X Xr Xt) {x3 x4 x5 x6 x7 : Int} {t1 t2 : Nat} {σ : Sg} (h : if x7 < 330 then (if x6 = 0 then (if x4 = (-1) then (Xr [lV x5] σ) else (Xr [lV (-1)] σ)) else (∃ v1 : Int, C MX0_productOf [rV 10 63, rV 17 t1, iV x3] σ (.inl [lV v1]) σ ∧ (∃ v2 : Int, C MX9_allRestsOf [rV 18 t2, lV v1] σ (.inl [iV v2]) σ ∧ (if v2 = 0 then (∃ v3 : Int, ∃ σ3 : Sg, C MX0_nextRow [rV 10 63, iV (σ t1 1), iV x3] σ (.inl [iV v3]) σ3 ∧ (X 28 [rV 10 63, rV 17 t1, rV 18 t2, iV x3, iV x4, iV x5, iV v3, iV (w32 (x7 + 1)), uV, uV] [] σ3)) else (if x5 = x4 then (Xr [lV v1] σ) else (∃ v4 : Int, ∃ σ4 : Sg, C MX0_nextRow [rV 10 63, iV (σ t1 1), iV x3] σ (.inl [iV v4]) σ4 ∧ (X 28 [rV 10 63, rV 17 t1, rV 18 t2, iV x3, iV x4, iV (w32 (x5 + 1)), iV v4, iV (w32 (x7 + 1)), uV, uV] [] σ4))))))) else (if x4 = (-1) then (Xr [lV x5] σ) else (Xr [lV (-1)] σ))) : X 28 [rV 10 63, rV 17 t1, rV 18 t2, iV x3, iV x4, iV x5, iV x6, iV x7, uV, uV] [] σ := by
  refine st_iload (pc := 28) hC dX0_seek_28 rfl ?_
  refine st_sipush (pc := 30) hC dX0_seek_30 (by decide) ?_
  refine st_icmp_ge (tg := 88) (pc := 33) hC dX0_seek_33 (by decide) (ite_im h (fun h => ?_) (fun h => ?_))
  · refine st_iload (pc := 36) hC dX0_seek_36 rfl ?_
    refine st_if_eq (tg := 88) (pc := 38) hC dX0_seek_38 (by decide) (ite_im h (fun h => ?_) (fun h => ?_))
    · refine st_iload (pc := 88) hC dX0_seek_88 rfl ?_
      refine st_iconst (pc := 90) hC dX0_seek_90 (by decide) ?_
      refine st_icmp_ne (tg := 100) (pc := 91) hC dX0_seek_91 (by decide) (ite_im h (fun h => ?_) (fun h => ?_))
      · refine st_iload (pc := 94) hC dX0_seek_94 rfl ?_
        refine st_i2l (pc := 96) hC dX0_seek_96 ?_
        refine st_goto (tg := 103) (pc := 97) hC dX0_seek_97 (by decide) ?_
        exact st_lreturn (pc := 103) hC dX0_seek_103 h
      · refine st_ldc2 (pc := 100) hC dX0_seek_100 rfl ?_
        exact st_lreturn (pc := 103) hC dX0_seek_103 h
    · refine st_aload_n (pc := 41) hC dX0_seek_41 rfl (by decide) (by decide) ?_
      refine st_aload_n (pc := 42) hC dX0_seek_42 rfl (by decide) (by decide) ?_
      refine st_iload_n (pc := 43) hC dX0_seek_43 rfl ?_
      obtain ⟨v1, hq, h⟩ := h
      refine st_invV (As := [rV 17 t1, iV x3]) (v := [lV v1]) (S := []) (pc := 44) hC dX0_seek_44 cl_0_26 rfl rfl (Nat.le_of_ble_eq_true rfl) cr_X0_productOf hq ?_
      refine st_lstore (L2 := [rV 10 63, rV 17 t1, rV 18 t2, iV x3, iV x4, iV x5, iV x6, iV x7, lV v1, uV]) (pc := 47) hC dX0_seek_47 (Nat.le_of_ble_eq_true rfl) rfl ?_
      refine st_aload_n (pc := 49) hC dX0_seek_49 rfl (by decide) (by decide) ?_
      refine st_lload (pc := 50) hC dX0_seek_50 rfl ?_
      obtain ⟨v2, hq, h⟩ := h
      refine st_invV (As := [lV v1]) (v := [iV v2]) (S := []) (pc := 52) hC dX0_seek_52 cl_0_30 rfl rfl (Nat.le_of_ble_eq_true rfl) cr_X9_allRestsOf hq ?_
      refine st_if_eq (tg := 71) (pc := 55) hC dX0_seek_55 (by decide) (ite_im h (fun h => ?_) (fun h => ?_))
      · refine st_aload_n (pc := 71) hC dX0_seek_71 rfl (by decide) (by decide) ?_
        refine st_aload_n (pc := 72) hC dX0_seek_72 rfl (by decide) (by decide) ?_
        refine st_getf (ci := 7) (f := 1) (v := iV (σ t1 1)) (pc := 73) hC dX0_seek_73 fl_0_21 rfl rfl ?_
        refine st_iload_n (pc := 76) hC dX0_seek_76 rfl ?_
        obtain ⟨v3, σ3, hq, h⟩ := h
        refine st_invV (As := [iV (σ t1 1), iV x3]) (v := [iV v3]) (S := []) (pc := 77) hC dX0_seek_77 cl_0_36 rfl rfl (Nat.le_of_ble_eq_true rfl) cr_X0_nextRow hq ?_
        refine st_istore (L2 := [rV 10 63, rV 17 t1, rV 18 t2, iV x3, iV x4, iV x5, iV v3, iV x7, lV v1, uV]) (pc := 80) hC dX0_seek_80 (Nat.le_of_ble_eq_true rfl) rfl ?_
        refine st_iinc (L2 := [rV 10 63, rV 17 t1, rV 18 t2, iV x3, iV x4, iV x5, iV v3, iV (w32 (x7 + 1)), lV v1, uV]) (pc := 82) hC dX0_seek_82 rfl (Nat.le_of_ble_eq_true rfl) rfl ?_
        refine st_goto (tg := 28) (pc := 85) hC dX0_seek_85 (by decide) ?_
        exact st_fg (L2 := [rV 10 63, rV 17 t1, rV 18 t2, iV x3, iV x4, iV x5, iV v3, iV (w32 (x7 + 1)), uV, uV]) hC ⟨Or.inl rfl, Or.inl rfl, Or.inl rfl, Or.inl rfl, Or.inl rfl, Or.inl rfl, Or.inl rfl, Or.inl rfl, Or.inr rfl, Or.inl rfl, trivial⟩ h
      · refine st_iload (pc := 58) hC dX0_seek_58 rfl ?_
        refine st_iload (pc := 60) hC dX0_seek_60 rfl ?_
        refine st_icmp_ne (tg := 68) (pc := 62) hC dX0_seek_62 (by decide) (ite_im h (fun h => ?_) (fun h => ?_))
        · refine st_lload (pc := 65) hC dX0_seek_65 rfl ?_
          exact st_lreturn (pc := 67) hC dX0_seek_67 h
        · refine st_iinc (L2 := [rV 10 63, rV 17 t1, rV 18 t2, iV x3, iV x4, iV (w32 (x5 + 1)), iV x6, iV x7, lV v1, uV]) (pc := 68) hC dX0_seek_68 rfl (Nat.le_of_ble_eq_true rfl) rfl ?_
          refine st_aload_n (pc := 71) hC dX0_seek_71 rfl (by decide) (by decide) ?_
          refine st_aload_n (pc := 72) hC dX0_seek_72 rfl (by decide) (by decide) ?_
          refine st_getf (ci := 7) (f := 1) (v := iV (σ t1 1)) (pc := 73) hC dX0_seek_73 fl_0_21 rfl rfl ?_
          refine st_iload_n (pc := 76) hC dX0_seek_76 rfl ?_
          obtain ⟨v4, σ4, hq, h⟩ := h
          refine st_invV (As := [iV (σ t1 1), iV x3]) (v := [iV v4]) (S := []) (pc := 77) hC dX0_seek_77 cl_0_36 rfl rfl (Nat.le_of_ble_eq_true rfl) cr_X0_nextRow hq ?_
          refine st_istore (L2 := [rV 10 63, rV 17 t1, rV 18 t2, iV x3, iV x4, iV (w32 (x5 + 1)), iV v4, iV x7, lV v1, uV]) (pc := 80) hC dX0_seek_80 (Nat.le_of_ble_eq_true rfl) rfl ?_
          refine st_iinc (L2 := [rV 10 63, rV 17 t1, rV 18 t2, iV x3, iV x4, iV (w32 (x5 + 1)), iV v4, iV (w32 (x7 + 1)), lV v1, uV]) (pc := 82) hC dX0_seek_82 rfl (Nat.le_of_ble_eq_true rfl) rfl ?_
          refine st_goto (tg := 28) (pc := 85) hC dX0_seek_85 (by decide) ?_
          exact st_fg (L2 := [rV 10 63, rV 17 t1, rV 18 t2, iV x3, iV x4, iV (w32 (x5 + 1)), iV v4, iV (w32 (x7 + 1)), uV, uV]) hC ⟨Or.inl rfl, Or.inl rfl, Or.inl rfl, Or.inl rfl, Or.inl rfl, Or.inl rfl, Or.inl rfl, Or.inl rfl, Or.inr rfl, Or.inl rfl, trivial⟩ h
  · refine st_iload (pc := 88) hC dX0_seek_88 rfl ?_
    refine st_iconst (pc := 90) hC dX0_seek_90 (by decide) ?_
    refine st_icmp_ne (tg := 100) (pc := 91) hC dX0_seek_91 (by decide) (ite_im h (fun h => ?_) (fun h => ?_))
    · refine st_iload (pc := 94) hC dX0_seek_94 rfl ?_
      refine st_i2l (pc := 96) hC dX0_seek_96 ?_
      refine st_goto (tg := 103) (pc := 97) hC dX0_seek_97 (by decide) ?_
      exact st_lreturn (pc := 103) hC dX0_seek_103 h
    · refine st_ldc2 (pc := 100) hC dX0_seek_100 rfl ?_
      exact st_lreturn (pc := 103) hC dX0_seek_103 h
theorem bX0_productOf_0 {C : Nat → List Vv → Sg → Rs → Sg → Prop} {X : Nat → List Vv → List Vv → Sg → Prop} {Xr : List Vv → Sg → Prop} {Xt : Nat → Sg → Prop} (hC : Clo C 0 cX0_productOf (some .long) X Xr Xt) {x2 : Int} {t1 : Nat} {σ : Sg} (h : X 5 [rV 10 63, rV 17 t1, iV x2, lV 1, uV, iV 0] [] σ) : X 0 [rV 10 63, rV 17 t1, iV x2, uV, uV, uV] [] σ := by
  refine st_lconst1 (pc := 0) hC dX0_productOf_0 ?_
  refine st_lstore_n (L2 := [rV 10 63, rV 17 t1, iV x2, lV 1, uV, uV]) (pc := 1) hC dX0_productOf_1 (Nat.le_of_ble_eq_true rfl) rfl ?_
  refine st_iconst (pc := 2) hC dX0_productOf_2 (by decide) ?_
  refine st_istore (L2 := [rV 10 63, rV 17 t1, iV x2, lV 1, uV, iV 0]) (pc := 3) hC dX0_productOf_3 (Nat.le_of_ble_eq_true rfl) rfl ?_
  exact h
theorem bX0_productOf_5 {C : Nat → List Vv → Sg → Rs → Sg → Prop} {X : Nat → List Vv → List Vv → Sg → Prop} {Xr : List Vv → Sg → Prop} {Xt : Nat → Sg → Prop} (hC : Clo C 0 cX0_productOf (some .long) X Xr Xt) {x2 x3 x5 : Int} {t1 : Nat} {σ : Sg} (h : if x5 < x2 then (if x5 < 4 then ((0 ≤ x5 ∧ x5 < 4) ∧ (∃ v1 : Int, C MX8_primeOf [rV 17 t1, iV (σ 64 (x5).toNat)] σ (.inl [iV v1]) σ ∧ (X 5 [rV 10 63, rV 17 t1, iV x2, lV (w64 (x3 * v1)), uV, iV (w32 (x5 + 1))] [] σ))) else (Xr [lV x3] σ)) else (Xr [lV x3] σ)) : X 5 [rV 10 63, rV 17 t1, iV x2, lV x3, uV, iV x5] [] σ := by
  refine st_iload (pc := 5) hC dX0_productOf_5 rfl ?_
  refine st_iload_n (pc := 7) hC dX0_productOf_7 rfl ?_
  refine st_icmp_ge (tg := 38) (pc := 8) hC dX0_productOf_8 (by decide) (ite_im h (fun h => ?_) (fun h => ?_))
  · refine st_iload (pc := 11) hC dX0_productOf_11 rfl ?_
    refine st_iconst (pc := 13) hC dX0_productOf_13 (by decide) ?_
    refine st_icmp_ge (tg := 38) (pc := 14) hC dX0_productOf_14 (by decide) (ite_im h (fun h => ?_) (fun h => ?_))
    · refine st_lload_n (pc := 17) hC dX0_productOf_17 rfl ?_
      refine st_aload_n (pc := 18) hC dX0_productOf_18 rfl (by decide) (by decide) ?_
      refine st_aload_n (pc := 19) hC dX0_productOf_19 rfl (by decide) (by decide) ?_
      refine st_getf (ci := 0) (f := 0) (v := rV 1000004 64) (pc := 20) hC dX0_productOf_20 fl_0_11 rfl rfl ?_
      refine st_iload (pc := 23) hC dX0_productOf_23 rfl ?_
      obtain ⟨hb, h⟩ := h
      refine st_iald (n := 4) (pc := 25) hC dX0_productOf_25 (by decide) hb ?_
      obtain ⟨v1, hq, h⟩ := h
      refine st_invV (As := [iV (σ 64 (x5).toNat)]) (v := [iV v1]) (S := [lV x3]) (pc := 26) hC dX0_productOf_26 cl_0_42 rfl rfl (Nat.le_of_ble_eq_true rfl) cr_X8_primeOf hq ?_
      refine st_i2l (pc := 29) hC dX0_productOf_29 ?_
      refine st_lmul (pc := 30) hC dX0_productOf_30 ?_
      refine st_lstore_n (L2 := [rV 10 63, rV 17 t1, iV x2, lV (w64 (x3 * v1)), uV, iV x5]) (pc := 31) hC dX0_productOf_31 (Nat.le_of_ble_eq_true rfl) rfl ?_
      refine st_iinc (L2 := [rV 10 63, rV 17 t1, iV x2, lV (w64 (x3 * v1)), uV, iV (w32 (x5 + 1))]) (pc := 32) hC dX0_productOf_32 rfl (Nat.le_of_ble_eq_true rfl) rfl ?_
      refine st_goto (tg := 5) (pc := 35) hC dX0_productOf_35 (by decide) ?_
      exact h
    · refine st_lload_n (pc := 38) hC dX0_productOf_38 rfl ?_
      exact st_lreturn (pc := 39) hC dX0_productOf_39 h
  · refine st_lload_n (pc := 38) hC dX0_productOf_38 rfl ?_
    exact st_lreturn (pc := 39) hC dX0_productOf_39 h
theorem bX0_nextRow_0 {C : Nat → List Vv → Sg → Rs → Sg → Prop} {X : Nat → List Vv → List Vv → Sg → Prop} {Xr : List Vv → Sg → Prop} {Xt : Nat → Sg → Prop} (hC : Clo C 0 cX0_nextRow (some .boolean) X Xr Xt) {x1 x2 : Int} {σ : Sg} (h : X 8 [rV 10 63, iV x1, iV x2, iV (w32 ((min x2 4) - 1))] [] σ) : X 0 [rV 10 63, iV x1, iV x2, uV] [] σ := by
  refine st_iload_n (pc := 0) hC dX0_nextRow_0 rfl ?_
  refine st_iconst (pc := 1) hC dX0_nextRow_1 (by decide) ?_
  refine st_mmin (pc := 2) hC dX0_nextRow_2 rfl (Nat.le_of_ble_eq_true rfl) ?_
  refine st_iconst (pc := 5) hC dX0_nextRow_5 (by decide) ?_
  refine st_isub (pc := 6) hC dX0_nextRow_6 ?_
  refine st_istore_n (L2 := [rV 10 63, iV x1, iV x2, iV (w32 ((min x2 4) - 1))]) (pc := 7) hC dX0_nextRow_7 (Nat.le_of_ble_eq_true rfl) rfl ?_
  exact h
theorem bX0_nextRow_8 {C : Nat → List Vv → Sg → Rs → Sg → Prop} {X : Nat → List Vv → List Vv → Sg → Prop} {Xr : List Vv → Sg → Prop} {Xt : Nat → Sg → Prop} (hC : Clo C 0 cX0_nextRow (some .boolean) X Xr Xt) {x1 x2 x3 : Int} {σ : Sg} (h : if x3 < 0 then (Xr [iV 0] σ) else ((0 ≤ x3 ∧ x3 < 4) ∧ (if (w32 ((σ 64 (x3).toNat) + 1)) < x1 then ((0 ≤ x3 ∧ x3 < 4) ∧ (∃ σ1 : Sg, C MX0_raiseFrom [rV 10 63, iV x3, iV (w32 ((σ 64 (x3).toNat) + 1))] σ (.inl []) σ1 ∧ (Xr [iV 1] σ1))) else (X 8 [rV 10 63, iV x1, iV x2, iV (w32 (x3 + (-1)))] [] σ)))) : X 8 [rV 10 63, iV x1, iV x2, iV x3] [] σ := by
  refine st_iload_n (pc := 8) hC dX0_nextRow_8 rfl ?_
  refine st_if_lt (tg := 45) (pc := 9) hC dX0_nextRow_9 (by decide) (ite_im h (fun h => ?_) (fun h => ?_))
  · refine st_iconst (pc := 45) hC dX0_nextRow_45 (by decide) ?_
    exact st_ireturn (pc := 46) hC dX0_nextRow_46 (Or.inl rfl) h
  · refine st_aload_n (pc := 12) hC dX0_nextRow_12 rfl (by decide) (by decide) ?_
    refine st_getf (ci := 0) (f := 0) (v := rV 1000004 64) (pc := 13) hC dX0_nextRow_13 fl_0_11 rfl rfl ?_
    refine st_iload_n (pc := 16) hC dX0_nextRow_16 rfl ?_
    obtain ⟨hb, h⟩ := h
    refine st_iald (n := 4) (pc := 17) hC dX0_nextRow_17 (by decide) hb ?_
    refine st_iconst (pc := 18) hC dX0_nextRow_18 (by decide) ?_
    refine st_iadd (pc := 19) hC dX0_nextRow_19 ?_
    refine st_iload_n (pc := 20) hC dX0_nextRow_20 rfl ?_
    refine st_icmp_ge (tg := 39) (pc := 21) hC dX0_nextRow_21 (by decide) (ite_im h (fun h => ?_) (fun h => ?_))
    · refine st_aload_n (pc := 24) hC dX0_nextRow_24 rfl (by decide) (by decide) ?_
      refine st_iload_n (pc := 25) hC dX0_nextRow_25 rfl ?_
      refine st_aload_n (pc := 26) hC dX0_nextRow_26 rfl (by decide) (by decide) ?_
      refine st_getf (ci := 0) (f := 0) (v := rV 1000004 64) (pc := 27) hC dX0_nextRow_27 fl_0_11 rfl rfl ?_
      refine st_iload_n (pc := 30) hC dX0_nextRow_30 rfl ?_
      obtain ⟨hb, h⟩ := h
      refine st_iald (n := 4) (pc := 31) hC dX0_nextRow_31 (by decide) hb ?_
      refine st_iconst (pc := 32) hC dX0_nextRow_32 (by decide) ?_
      refine st_iadd (pc := 33) hC dX0_nextRow_33 ?_
      obtain ⟨σ1, hq, h⟩ := h
      refine st_invV (As := [iV x3, iV (w32 ((σ 64 (x3).toNat) + 1))]) (v := []) (S := []) (pc := 34) hC dX0_nextRow_34 cl_0_52 rfl rfl (Nat.le_of_ble_eq_true rfl) cr_X0_raiseFrom hq ?_
      refine st_iconst (pc := 37) hC dX0_nextRow_37 (by decide) ?_
      exact st_ireturn (pc := 38) hC dX0_nextRow_38 (Or.inr rfl) h
    · refine st_iinc (L2 := [rV 10 63, iV x1, iV x2, iV (w32 (x3 + (-1)))]) (pc := 39) hC dX0_nextRow_39 rfl (Nat.le_of_ble_eq_true rfl) rfl ?_
      refine st_goto (tg := 8) (pc := 42) hC dX0_nextRow_42 (by decide) ?_
      exact h
theorem bX0_raiseFrom_0 {C : Nat → List Vv → Sg → Rs → Sg → Prop} {X : Nat → List Vv → List Vv → Sg → Prop} {Xr : List Vv → Sg → Prop} {Xt : Nat → Sg → Prop} (hC : Clo C 0 cX0_raiseFrom none X Xr Xt) {x1 x2 : Int} {σ : Sg} (h : X 6 [rV 10 63, iV x1, iV x2, iV (max x1 0)] [] σ) : X 0 [rV 10 63, iV x1, iV x2, uV] [] σ := by
  refine st_iload_n (pc := 0) hC dX0_raiseFrom_0 rfl ?_
  refine st_iconst (pc := 1) hC dX0_raiseFrom_1 (by decide) ?_
  refine st_mmax (pc := 2) hC dX0_raiseFrom_2 rfl (Nat.le_of_ble_eq_true rfl) ?_
  refine st_istore_n (L2 := [rV 10 63, iV x1, iV x2, iV (max x1 0)]) (pc := 5) hC dX0_raiseFrom_5 (Nat.le_of_ble_eq_true rfl) rfl ?_
  exact h
theorem bX0_raiseFrom_6 {C : Nat → List Vv → Sg → Rs → Sg → Prop} {X : Nat → List Vv → List Vv → Sg → Prop} {Xr : List Vv → Sg → Prop} {Xt : Nat → Sg → Prop} (hC : Clo C 0 cX0_raiseFrom none X Xr Xt) {x1 x2 x3 : Int} {σ : Sg} (h : if x3 < 4 then ((0 ≤ x3 ∧ x3 < 4) ∧ (X 6 [rV 10 63, iV x1, iV x2, iV (w32 (x3 + 1))] [] (upS σ 64 (x3).toNat x2))) else (Xr [] σ)) : X 6 [rV 10 63, iV x1, iV x2, iV x3] [] σ := by
  refine st_iload_n (pc := 6) hC dX0_raiseFrom_6 rfl ?_
  refine st_iconst (pc := 7) hC dX0_raiseFrom_7 (by decide) ?_
  refine st_icmp_ge (tg := 24) (pc := 8) hC dX0_raiseFrom_8 (by decide) (ite_im h (fun h => ?_) (fun h => ?_))
  · refine st_aload_n (pc := 11) hC dX0_raiseFrom_11 rfl (by decide) (by decide) ?_
    refine st_getf (ci := 0) (f := 0) (v := rV 1000004 64) (pc := 12) hC dX0_raiseFrom_12 fl_0_11 rfl rfl ?_
    refine st_iload_n (pc := 15) hC dX0_raiseFrom_15 rfl ?_
    refine st_iload_n (pc := 16) hC dX0_raiseFrom_16 rfl ?_
    obtain ⟨hb, h⟩ := h
    refine st_iast (n := 4) (pc := 17) hC dX0_raiseFrom_17 (by decide) hb ?_
    refine st_iinc (L2 := [rV 10 63, iV x1, iV x2, iV (w32 (x3 + 1))]) (pc := 18) hC dX0_raiseFrom_18 rfl (Nat.le_of_ble_eq_true rfl) rfl ?_
    refine st_goto (tg := 6) (pc := 21) hC dX0_raiseFrom_21 (by decide) ?_
    exact h
  · exact st_return (pc := 24) hC dX0_raiseFrom_24 h
