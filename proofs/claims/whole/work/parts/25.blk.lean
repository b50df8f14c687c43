theorem bX4_at_0 {C : Nat → List Vv → Sg → Rs → Sg → Prop} {X : Nat → List Vv → List Vv → Sg → Prop} {Xr : List Vv → Sg → Prop} {Xt : Nat → Sg → Prop} (hC : Clo C 4 cX4_at (some .long) X Xr Xt) {x1 : Int} {σ : Sg} (h : if x1 < 0 then (Xr [lV (-1)] σ) else (if x1 < (σ 54 0) then ((0 ≤ x1 ∧ x1 < 384) ∧ (Xr [lV (σ 55 (x1).toNat)] σ)) else (Xr [lV (-1)] σ))) : X 0 [rV 13 54, iV x1] [] σ := by
  refine st_iload_n (pc := 0) hC dX4_at_0 rfl ?_
  refine st_if_lt (tg := 21) (pc := 1) hC dX4_at_1 (by decide) (ite_im h (fun h => ?_) (fun h => ?_))
  · refine st_ldc2 (pc := 21) hC dX4_at_21 rfl ?_
    exact st_lreturn (pc := 24) hC dX4_at_24 h
  · refine st_iload_n (pc := 4) hC dX4_at_4 rfl ?_
    refine st_aload_n (pc := 5) hC dX4_at_5 rfl (by decide) (by decide) ?_
    refine st_getf (ci := 3) (f := 0) (v := iV (σ 54 0)) (pc := 6) hC dX4_at_6 fl_4_9 rfl rfl ?_
    refine st_icmp_ge (tg := 21) (pc := 9) hC dX4_at_9 (by decide) (ite_im h (fun h => ?_) (fun h => ?_))
    · refine st_aload_n (pc := 12) hC dX4_at_12 rfl (by decide) (by decide) ?_
      refine st_getf (ci := 3) (f := 1) (v := rV 2000384 55) (pc := 13) hC dX4_at_13 fl_4_15 rfl rfl ?_
      refine st_iload_n (pc := 16) hC dX4_at_16 rfl ?_
      obtain ⟨hb, h⟩ := h
      refine st_lald (n := 384) (pc := 17) hC dX4_at_17 (by decide) hb ?_
      refine st_goto (tg := 24) (pc := 18) hC dX4_at_18 (by decide) ?_
      exact st_lreturn (pc := 24) hC dX4_at_24 h
    · refine st_ldc2 (pc := 21) hC dX4_at_21 rfl ?_
      exact st_lreturn (pc := 24) hC dX4_at_24 h
theorem bX4_fill_0 {C : Nat → List Vv → Sg → Rs → Sg → Prop} {X : Nat → List Vv → List Vv → Sg → Prop} {Xr : List Vv → Sg → Prop} {Xt : Nat → Sg → Prop} (hC : Clo C 4 cX4_fill none X Xr Xt) {x2 : Int} {t1 : Nat} {σ : Sg} (h : X 14 [rV 13 54, rV 17 t1, iV x2, iV 0, uV, uV] [] (upS (upS σ 55 0 1) 54 0 1)) : X 0 [rV 13 54, rV 17 t1, iV x2, uV, uV, uV] [] σ := by
  refine st_aload_n (pc := 0) hC dX4_fill_0 rfl (by decide) (by decide) ?_
  refine st_getf (ci := 3) (f := 1) (v := rV 2000384 55) (pc := 1) hC dX4_fill_1 fl_4_15 rfl rfl ?_
  refine st_iconst (pc := 4) hC dX4_fill_4 (by decide) ?_
  refine st_lconst1 (pc := 5) hC dX4_fill_5 ?_
  refine st_last (n := 384) (pc := 6) hC dX4_fill_6 (by decide) ⟨by decide, by decide⟩ ?_
  refine st_aload_n (pc := 7) hC dX4_fill_7 rfl (by decide) (by decide) ?_
  refine st_iconst (pc := 8) hC dX4_fill_8 (by decide) ?_
  refine st_putfI (ci := 3) (f := 0) (pc := 9) hC dX4_fill_9 fl_4_9 rfl rfl ?_
  refine st_iconst (pc := 12) hC dX4_fill_12 (by decide) ?_
  refine st_istore_n (L2 := [rV 13 54, rV 17 t1, iV x2, iV 0, uV, uV]) (pc := 13) hC dX4_fill_13 (Nat.le_of_ble_eq_true rfl) rfl ?_
  exact h
theorem bX4_fill_14 {C : Nat → List Vv → Sg → Rs → Sg → Prop} {X : Nat → List Vv → List Vv → Sg → Prop} {Xr : List Vv → Sg → Prop} {Xt : Nat → Sg → Prop} (hC : Clo C 4 cX4_fill none X Xr Xt) {x2 x3 : Int} {t1 : Nat} {σ : Sg} (h : if x3 < (σ t1 1) then (((0 : Int) ≤ 0 ∧ (0 : Int) ≤ 0 ∧ (0 : Int) ≤ (σ 54 0) ∧ (0 : Int) + (σ 54 0) ≤ 384 ∧ (0 : Int) + (σ 54 0) ≤ 384) ∧ (X 46 [rV 13 54, rV 17 t1, iV x2, iV x3, iV (σ 54 0), iV 0] [] (cpS σ 55 0 56 0 ((σ 54 0)).toNat))) else (Xr [] σ)) : X 14 [rV 13 54, rV 17 t1, iV x2, iV x3, uV, uV] [] σ := by
  refine st_iload_n (pc := 14) hC dX4_fill_14 rfl ?_
  refine st_aload_n (pc := 15) hC dX4_fill_15 rfl (by decide) (by decide) ?_
  refine st_getf (ci := 7) (f := 1) (v := iV (σ t1 1)) (pc := 16) hC dX4_fill_16 fl_4_24 rfl rfl ?_
  refine st_icmp_ge (tg := 93) (pc := 19) hC dX4_fill_19 (by decide) (ite_im h (fun h => ?_) (fun h => ?_))
  · refine st_aload_n (pc := 22) hC dX4_fill_22 rfl (by decide) (by decide) ?_
    refine st_getf (ci := 3) (f := 0) (v := iV (σ 54 0)) (pc := 23) hC dX4_fill_23 fl_4_9 rfl rfl ?_
    refine st_istore (L2 := [rV 13 54, rV 17 t1, iV x2, iV x3, iV (σ 54 0), uV]) (pc := 26) hC dX4_fill_26 (Nat.le_of_ble_eq_true rfl) rfl ?_
    refine st_aload_n (pc := 28) hC dX4_fill_28 rfl (by decide) (by decide) ?_
    refine st_getf (ci := 3) (f := 1) (v := rV 2000384 55) (pc := 29) hC dX4_fill_29 fl_4_15 rfl rfl ?_
    refine st_iconst (pc := 32) hC dX4_fill_32 (by decide) ?_
    refine st_aload_n (pc := 33) hC dX4_fill_33 rfl (by decide) (by decide) ?_
    refine st_getf (ci := 3) (f := 2) (v := rV 2000384 56) (pc := 34) hC dX4_fill_34 fl_4_19 rfl rfl ?_
    refine st_iconst (pc := 37) hC dX4_fill_37 (by decide) ?_
    refine st_iload (pc := 38) hC dX4_fill_38 rfl ?_
    obtain ⟨h0, h⟩ := h
    refine st_cpy (n1 := 384) (n2 := 384) (pc := 40) hC dX4_fill_40 rfl (Nat.le_of_ble_eq_true rfl) (by decide) h0 ?_
    refine st_iconst (pc := 43) hC dX4_fill_43 (by decide) ?_
    refine st_istore (L2 := [rV 13 54, rV 17 t1, iV x2, iV x3, iV (σ 54 0), iV 0]) (pc := 44) hC dX4_fill_44 (Nat.le_of_ble_eq_true rfl) rfl ?_
    exact h
  · exact st_return (pc := 93) hC dX4_fill_93 h
theorem bX4_fill_46 {C : Nat → List Vv → Sg → Rs → Sg → Prop} {X : Nat → List Vv → List Vv → Sg → Prop} {Xr : List Vv → Sg → Prop} {Xt : Nat → Sg → Prop} (hC : Clo C 4 cX4_fill none X Xr Xt) {x2 x3 x4 x5 : Int} {t1 : Nat} {σ : Sg} (h : ∃ v1 : Int, C MX8_held [rV 17 t1, iV x2, iV x3] σ (.inl [iV v1]) σ ∧ (if x5 < v1 then (if (384 : Int) < (w32 ((σ 54 0) + x4)) then (X 14 [rV 13 54, rV 17 t1, iV x2, iV (w32 (x3 + 1)), uV, uV] [] σ) else (∃ v2 : Int, C MX8_primeOf [rV 17 t1, iV x3] σ (.inl [iV v2]) σ ∧ (∃ σ3 : Sg, C MX4_mergeTimes [rV 13 54, iV v2, iV x4] σ (.inl []) σ3 ∧ (X 46 [rV 13 54, rV 17 t1, iV x2, iV x3, iV x4, iV (w32 (x5 + 1))] [] σ3)))) else (X 14 [rV 13 54, rV 17 t1, iV x2, iV (w32 (x3 + 1)), uV, uV] [] σ))) : X 46 [rV 13 54, rV 17 t1, iV x2, iV x3, iV x4, iV x5] [] σ := by
  refine st_iload (pc := 46) hC dX4_fill_46 rfl ?_
  refine st_aload_n (pc := 48) hC dX4_fill_48 rfl (by decide) (by decide) ?_
  refine st_iload_n (pc := 49) hC dX4_fill_49 rfl ?_
  refine st_iload_n (pc := 50) hC dX4_fill_50 rfl ?_
  obtain ⟨v1, hq, h⟩ := h
  refine st_invV (As := [iV x2, iV x3]) (v := [iV v1]) (S := [iV x5]) (pc := 51) hC dX4_fill_51 cl_4_35 rfl rfl (Nat.le_of_ble_eq_true rfl) cr_X8_held hq ?_
  refine st_icmp_ge (tg := 87) (pc := 54) hC dX4_fill_54 (by decide) (ite_im h (fun h => ?_) (fun h => ?_))
  · refine st_aload_n (pc := 57) hC dX4_fill_57 rfl (by decide) (by decide) ?_
    refine st_getf (ci := 3) (f := 0) (v := iV (σ 54 0)) (pc := 58) hC dX4_fill_58 fl_4_9 rfl rfl ?_
    refine st_iload (pc := 61) hC dX4_fill_61 rfl ?_
    refine st_iadd (pc := 63) hC dX4_fill_63 ?_
    refine st_sipush (pc := 64) hC dX4_fill_64 (by decide) ?_
    refine st_icmp_gt (tg := 87) (pc := 67) hC dX4_fill_67 (by decide) (ite_im h (fun h => ?_) (fun h => ?_))
    · refine st_iinc (L2 := [rV 13 54, rV 17 t1, iV x2, iV (w32 (x3 + 1)), iV x4, iV x5]) (pc := 87) hC dX4_fill_87 rfl (Nat.le_of_ble_eq_true rfl) rfl ?_
      refine st_goto (tg := 14) (pc := 90) hC dX4_fill_90 (by decide) ?_
      exact st_fg (L2 := [rV 13 54, rV 17 t1, iV x2, iV (w32 (x3 + 1)), uV, uV]) hC ⟨Or.inl rfl, Or.inl rfl, Or.inl rfl, Or.inl rfl, Or.inr rfl, Or.inr rfl, trivial⟩ h
    · refine st_aload_n (pc := 70) hC dX4_fill_70 rfl (by decide) (by decide) ?_
      refine st_aload_n (pc := 71) hC dX4_fill_71 rfl (by decide) (by decide) ?_
      refine st_iload_n (pc := 72) hC dX4_fill_72 rfl ?_
      obtain ⟨v2, hq, h⟩ := h
      refine st_invV (As := [iV x3]) (v := [iV v2]) (S := [rV 13 54]) (pc := 73) hC dX4_fill_73 cl_4_39 rfl rfl (Nat.le_of_ble_eq_true rfl) cr_X8_primeOf hq ?_
      refine st_iload (pc := 76) hC dX4_fill_76 rfl ?_
      obtain ⟨σ3, hq, h⟩ := h
      refine st_invV (As := [iV v2, iV x4]) (v := []) (S := []) (pc := 78) hC dX4_fill_78 cl_4_43 rfl rfl (Nat.le_of_ble_eq_true rfl) cr_X4_mergeTimes hq ?_
      refine st_iinc (L2 := [rV 13 54, rV 17 t1, iV x2, iV x3, iV x4, iV (w32 (x5 + 1))]) (pc := 81) hC dX4_fill_81 rfl (Nat.le_of_ble_eq_true rfl) rfl ?_
      refine st_goto (tg := 46) (pc := 84) hC dX4_fill_84 (by decide) ?_
      exact h
  · refine st_iinc (L2 := [rV 13 54, rV 17 t1, iV x2, iV (w32 (x3 + 1)), iV x4, iV x5]) (pc := 87) hC dX4_fill_87 rfl (Nat.le_of_ble_eq_true rfl) rfl ?_
    refine st_goto (tg := 14) (pc := 90) hC dX4_fill_90 (by decide) ?_
    exact st_fg (L2 := [rV 13 54, rV 17 t1, iV x2, iV (w32 (x3 + 1)), uV, uV]) hC ⟨Or.inl rfl, Or.inl rfl, Or.inl rfl, Or.inl rfl, Or.inr rfl, Or.inr rfl, trivial⟩ h
theorem bX4_mergeTimes_0 {C : Nat → List Vv → Sg → Rs → Sg → Prop} {X : Nat → List Vv → List Vv → Sg → Prop} {Xr : List Vv → Sg → Prop} {Xt : Nat → Sg → Prop} (hC : Clo C 4 cX4_mergeTimes none X Xr Xt) {x1 x2 : Int} {σ : Sg} (h : X 30 [rV 13 54, iV x1, iV x2, iV (w32 ((σ 54 0) - 1)), iV (w32 (x2 - 1)), iV (w32 (((upS σ 54 0 (w32 ((σ 54 0) + x2))) 54 0) - 1))] [] (upS σ 54 0 (w32 ((σ 54 0) + x2)))) : X 0 [rV 13 54, iV x1, iV x2, uV, uV, uV] [] σ := by
  refine st_aload_n (pc := 0) hC dX4_mergeTimes_0 rfl (by decide) (by decide) ?_
  refine st_getf (ci := 3) (f := 0) (v := iV (σ 54 0)) (pc := 1) hC dX4_mergeTimes_1 fl_4_9 rfl rfl ?_
  refine st_iconst (pc := 4) hC dX4_mergeTimes_4 (by decide) ?_
  refine st_isub (pc := 5) hC dX4_mergeTimes_5 ?_
  refine st_istore_n (L2 := [rV 13 54, iV x1, iV x2, iV (w32 ((σ 54 0) - 1)), uV, uV]) (pc := 6) hC dX4_mergeTimes_6 (Nat.le_of_ble_eq_true rfl) rfl ?_
  refine st_iload_n (pc := 7) hC dX4_mergeTimes_7 rfl ?_
  refine st_iconst (pc := 8) hC dX4_mergeTimes_8 (by decide) ?_
  refine st_isub (pc := 9) hC dX4_mergeTimes_9 ?_
  refine st_istore (L2 := [rV 13 54, iV x1, iV x2, iV (w32 ((σ 54 0) - 1)), iV (w32 (x2 - 1)), uV]) (pc := 10) hC dX4_mergeTimes_10 (Nat.le_of_ble_eq_true rfl) rfl ?_
  refine st_aload_n (pc := 12) hC dX4_mergeTimes_12 rfl (by decide) (by decide) ?_
  refine st_dupR (pc := 13) hC dX4_mergeTimes_13 (by decide) (by decide) ?_
  refine st_getf (ci := 3) (f := 0) (v := iV (σ 54 0)) (pc := 14) hC dX4_mergeTimes_14 fl_4_9 rfl rfl ?_
  refine st_iload_n (pc := 17) hC dX4_mergeTimes_17 rfl ?_
  refine st_iadd (pc := 18) hC dX4_mergeTimes_18 ?_
  refine st_putfI (ci := 3) (f := 0) (pc := 19) hC dX4_mergeTimes_19 fl_4_9 rfl rfl ?_
  refine st_aload_n (pc := 22) hC dX4_mergeTimes_22 rfl (by decide) (by decide) ?_
  refine st_getf (ci := 3) (f := 0) (v := iV ((upS σ 54 0 (w32 ((σ 54 0) + x2))) 54 0)) (pc := 23) hC dX4_mergeTimes_23 fl_4_9 rfl rfl ?_
  refine st_iconst (pc := 26) hC dX4_mergeTimes_26 (by decide) ?_
  refine st_isub (pc := 27) hC dX4_mergeTimes_27 ?_
  refine st_istore (L2 := [rV 13 54, iV x1, iV x2, iV (w32 ((σ 54 0) - 1)), iV (w32 (x2 - 1)), iV (w32 (((upS σ 54 0 (w32 ((σ 54 0) + x2))) 54 0) - 1))]) (pc := 28) hC dX4_mergeTimes_28 (Nat.le_of_ble_eq_true rfl) rfl ?_
  exact h
theorem bX4_mergeTimes_30 {C : Nat → List Vv → Sg → Rs → Sg → Prop} {X : Nat → List Vv → List Vv → Sg → Prop} {Xr : List Vv → Sg → Prop} {Xt : Nat → Sg → Prop} (hC : Clo C 4 cX4_mergeTimes none X Xr Xt) {x1 x2 x3 x4 x5 : Int} {σ : Sg} (h : if x5 < 0 then (Xr [] σ) else (if x3 < 0 then (if x4 < 0 then (X 30 [rV 13 54, iV x1, iV x2, iV x3, iV x4, iV (w32 (x5 + (-1)))] [] σ) else ((0 ≤ x4 ∧ x4 < 384) ∧ ((0 ≤ x5 ∧ x5 < 384) ∧ (X 30 [rV 13 54, iV x1, iV x2, iV x3, iV (w32 (x4 + (-1))), iV (w32 (x5 + (-1)))] [] (upS σ 55 (x5).toNat (σ 56 (x4).toNat)))))) else (if x4 < 0 then ((0 ≤ x3 ∧ x3 < 384) ∧ ((0 ≤ x5 ∧ x5 < 384) ∧ (X 30 [rV 13 54, iV x1, iV x2, iV (w32 (x3 + (-1))), iV x4, iV (w32 (x5 + (-1)))] [] (upS σ 55 (x5).toNat (w64 ((σ 55 (x3).toNat) * x1)))))) else ((0 ≤ x3 ∧ x3 < 384) ∧ ((0 ≤ x4 ∧ x4 < 384) ∧ (if (σ 56 (x4).toNat) < (w64 ((σ 55 (x3).toNat) * x1)) then ((0 ≤ x3 ∧ x3 < 384) ∧ ((0 ≤ x5 ∧ x5 < 384) ∧ (X 30 [rV 13 54, iV x1, iV x2, iV (w32 (x3 + (-1))), iV x4, iV (w32 (x5 + (-1)))] [] (upS σ 55 (x5).toNat (w64 ((σ 55 (x3).toNat) * x1)))))) else (if x4 < 0 then (X 30 [rV 13 54, iV x1, iV x2, iV x3, iV x4, iV (w32 (x5 + (-1)))] [] σ) else ((0 ≤ x4 ∧ x4 < 384) ∧ ((0 ≤ x5 ∧ x5 < 384) ∧ (X 30 [rV 13 54, iV x1, iV x2, iV x3, iV (w32 (x4 + (-1))), iV (w32 (x5 + (-1)))] [] (upS σ 55 (x5).toNat (σ 56 (x4).toNat)))))))))))) : X 30 [rV 13 54, iV x1, iV x2, iV x3, iV x4, iV x5] [] σ := by
  refine st_iload (pc := 30) hC dX4_mergeTimes_30 rfl ?_
  refine st_if_lt (tg := 114) (pc := 32) hC dX4_mergeTimes_32 (by decide) (ite_im h (fun h => ?_) (fun h => ?_))
  · exact st_return (pc := 114) hC dX4_mergeTimes_114 h
  · refine st_iload_n (pc := 35) hC dX4_mergeTimes_35 rfl ?_
    refine st_if_lt (tg := 86) (pc := 36) hC dX4_mergeTimes_36 (by decide) (ite_im h (fun h => ?_) (fun h => ?_))
    · refine st_iload (pc := 86) hC dX4_mergeTimes_86 rfl ?_
      refine st_if_lt (tg := 108) (pc := 88) hC dX4_mergeTimes_88 (by decide) (ite_im h (fun h => ?_) (fun h => ?_))
      · refine st_iinc (L2 := [rV 13 54, iV x1, iV x2, iV x3, iV x4, iV (w32 (x5 + (-1)))]) (pc := 108) hC dX4_mergeTimes_108 rfl (Nat.le_of_ble_eq_true rfl) rfl ?_
        refine st_goto (tg := 30) (pc := 111) hC dX4_mergeTimes_111 (by decide) ?_
        exact h
      · refine st_aload_n (pc := 91) hC dX4_mergeTimes_91 rfl (by decide) (by decide) ?_
        refine st_getf (ci := 3) (f := 1) (v := rV 2000384 55) (pc := 92) hC dX4_mergeTimes_92 fl_4_15 rfl rfl ?_
        refine st_iload (pc := 95) hC dX4_mergeTimes_95 rfl ?_
        refine st_aload_n (pc := 97) hC dX4_mergeTimes_97 rfl (by decide) (by decide) ?_
        refine st_getf (ci := 3) (f := 2) (v := rV 2000384 56) (pc := 98) hC dX4_mergeTimes_98 fl_4_19 rfl rfl ?_
        refine st_iload (pc := 101) hC dX4_mergeTimes_101 rfl ?_
        obtain ⟨hb, h⟩ := h
        refine st_lald (n := 384) (pc := 103) hC dX4_mergeTimes_103 (by decide) hb ?_
        obtain ⟨hb, h⟩ := h
        refine st_last (n := 384) (pc := 104) hC dX4_mergeTimes_104 (by decide) hb ?_
        refine st_iinc (L2 := [rV 13 54, iV x1, iV x2, iV x3, iV (w32 (x4 + (-1))), iV x5]) (pc := 105) hC dX4_mergeTimes_105 rfl (Nat.le_of_ble_eq_true rfl) rfl ?_
        refine st_iinc (L2 := [rV 13 54, iV x1, iV x2, iV x3, iV (w32 (x4 + (-1))), iV (w32 (x5 + (-1)))]) (pc := 108) hC dX4_mergeTimes_108 rfl (Nat.le_of_ble_eq_true rfl) rfl ?_
        refine st_goto (tg := 30) (pc := 111) hC dX4_mergeTimes_111 (by decide) ?_
        exact h
    · refine st_iload (pc := 39) hC dX4_mergeTimes_39 rfl ?_
      refine st_if_lt (tg := 64) (pc := 41) hC dX4_mergeTimes_41 (by decide) (ite_im h (fun h => ?_) (fun h => ?_))
      · refine st_aload_n (pc := 64) hC dX4_mergeTimes_64 rfl (by decide) (by decide) ?_
        refine st_getf (ci := 3) (f := 1) (v := rV 2000384 55) (pc := 65) hC dX4_mergeTimes_65 fl_4_15 rfl rfl ?_
        refine st_iload (pc := 68) hC dX4_mergeTimes_68 rfl ?_
        refine st_aload_n (pc := 70) hC dX4_mergeTimes_70 rfl (by decide) (by decide) ?_
        refine st_getf (ci := 3) (f := 1) (v := rV 2000384 55) (pc := 71) hC dX4_mergeTimes_71 fl_4_15 rfl rfl ?_
        refine st_iload_n (pc := 74) hC dX4_mergeTimes_74 rfl ?_
        obtain ⟨hb, h⟩ := h
        refine st_lald (n := 384) (pc := 75) hC dX4_mergeTimes_75 (by decide) hb ?_
        refine st_iload_n (pc := 76) hC dX4_mergeTimes_76 rfl ?_
        refine st_i2l (pc := 77) hC dX4_mergeTimes_77 ?_
        refine st_lmul (pc := 78) hC dX4_mergeTimes_78 ?_
        obtain ⟨hb, h⟩ := h
        refine st_last (n := 384) (pc := 79) hC dX4_mergeTimes_79 (by decide) hb ?_
        refine st_iinc (L2 := [rV 13 54, iV x1, iV x2, iV (w32 (x3 + (-1))), iV x4, iV x5]) (pc := 80) hC dX4_mergeTimes_80 rfl (Nat.le_of_ble_eq_true rfl) rfl ?_
        refine st_goto (tg := 108) (pc := 83) hC dX4_mergeTimes_83 (by decide) ?_
        refine st_iinc (L2 := [rV 13 54, iV x1, iV x2, iV (w32 (x3 + (-1))), iV x4, iV (w32 (x5 + (-1)))]) (pc := 108) hC dX4_mergeTimes_108 rfl (Nat.le_of_ble_eq_true rfl) rfl ?_
        refine st_goto (tg := 30) (pc := 111) hC dX4_mergeTimes_111 (by decide) ?_
        exact h
      · refine st_aload_n (pc := 44) hC dX4_mergeTimes_44 rfl (by decide) (by decide) ?_
        refine st_getf (ci := 3) (f := 1) (v := rV 2000384 55) (pc := 45) hC dX4_mergeTimes_45 fl_4_15 rfl rfl ?_
        refine st_iload_n (pc := 48) hC dX4_mergeTimes_48 rfl ?_
        obtain ⟨hb, h⟩ := h
        refine st_lald (n := 384) (pc := 49) hC dX4_mergeTimes_49 (by decide) hb ?_
        refine st_iload_n (pc := 50) hC dX4_mergeTimes_50 rfl ?_
        refine st_i2l (pc := 51) hC dX4_mergeTimes_51 ?_
        refine st_lmul (pc := 52) hC dX4_mergeTimes_52 ?_
        refine st_aload_n (pc := 53) hC dX4_mergeTimes_53 rfl (by decide) (by decide) ?_
        refine st_getf (ci := 3) (f := 2) (v := rV 2000384 56) (pc := 54) hC dX4_mergeTimes_54 fl_4_19 rfl rfl ?_
        refine st_iload (pc := 57) hC dX4_mergeTimes_57 rfl ?_
        obtain ⟨hb, h⟩ := h
        refine st_lald (n := 384) (pc := 59) hC dX4_mergeTimes_59 (by decide) hb ?_
        refine st_lcmp_le (tg := 86) (pc := 60) hC dX4_mergeTimes_60 dX4_mergeTimes_61 (by decide) (ite_im h (fun h => ?_) (fun h => ?_))
        · refine st_aload_n (pc := 64) hC dX4_mergeTimes_64 rfl (by decide) (by decide) ?_
          refine st_getf (ci := 3) (f := 1) (v := rV 2000384 55) (pc := 65) hC dX4_mergeTimes_65 fl_4_15 rfl rfl ?_
          refine st_iload (pc := 68) hC dX4_mergeTimes_68 rfl ?_
          refine st_aload_n (pc := 70) hC dX4_mergeTimes_70 rfl (by decide) (by decide) ?_
          refine st_getf (ci := 3) (f := 1) (v := rV 2000384 55) (pc := 71) hC dX4_mergeTimes_71 fl_4_15 rfl rfl ?_
          refine st_iload_n (pc := 74) hC dX4_mergeTimes_74 rfl ?_
          obtain ⟨hb, h⟩ := h
          refine st_lald (n := 384) (pc := 75) hC dX4_mergeTimes_75 (by decide) hb ?_
          refine st_iload_n (pc := 76) hC dX4_mergeTimes_76 rfl ?_
          refine st_i2l (pc := 77) hC dX4_mergeTimes_77 ?_
          refine st_lmul (pc := 78) hC dX4_mergeTimes_78 ?_
          obtain ⟨hb, h⟩ := h
          refine st_last (n := 384) (pc := 79) hC dX4_mergeTimes_79 (by decide) hb ?_
          refine st_iinc (L2 := [rV 13 54, iV x1, iV x2, iV (w32 (x3 + (-1))), iV x4, iV x5]) (pc := 80) hC dX4_mergeTimes_80 rfl (Nat.le_of_ble_eq_true rfl) rfl ?_
          refine st_goto (tg := 108) (pc := 83) hC dX4_mergeTimes_83 (by decide) ?_
          refine st_iinc (L2 := [rV 13 54, iV x1, iV x2, iV (w32 (x3 + (-1))), iV x4, iV (w32 (x5 + (-1)))]) (pc := 108) hC dX4_mergeTimes_108 rfl (Nat.le_of_ble_eq_true rfl) rfl ?_
          refine st_goto (tg := 30) (pc := 111) hC dX4_mergeTimes_111 (by decide) ?_
          exact h
        · refine st_iload (pc := 86) hC dX4_mergeTimes_86 rfl ?_
          refine st_if_lt (tg := 108) (pc := 88) hC dX4_mergeTimes_88 (by decide) (ite_im h (fun h => ?_) (fun h => ?_))
          · refine st_iinc (L2 := [rV 13 54, iV x1, iV x2, iV x3, iV x4, iV (w32 (x5 + (-1)))]) (pc := 108) hC dX4_mergeTimes_108 rfl (Nat.le_of_ble_eq_true rfl) rfl ?_
            refine st_goto (tg := 30) (pc := 111) hC dX4_mergeTimes_111 (by decide) ?_
            exact h
          · refine st_aload_n (pc := 91) hC dX4_mergeTimes_91 rfl (by decide) (by decide) ?_
            refine st_getf (ci := 3) (f := 1) (v := rV 2000384 55) (pc := 92) hC dX4_mergeTimes_92 fl_4_15 rfl rfl ?_
            refine st_iload (pc := 95) hC dX4_mergeTimes_95 rfl ?_
            refine st_aload_n (pc := 97) hC dX4_mergeTimes_97 rfl (by decide) (by decide) ?_
            refine st_getf (ci := 3) (f := 2) (v := rV 2000384 56) (pc := 98) hC dX4_mergeTimes_98 fl_4_19 rfl rfl ?_
            refine st_iload (pc := 101) hC dX4_mergeTimes_101 rfl ?_
            obtain ⟨hb, h⟩ := h
            refine st_lald (n := 384) (pc := 103) hC dX4_mergeTimes_103 (by decide) hb ?_
            obtain ⟨hb, h⟩ := h
            refine st_last (n := 384) (pc := 104) hC dX4_mergeTimes_104 (by decide) hb ?_
            refine st_iinc (L2 := [rV 13 54, iV x1, iV x2, iV x3, iV (w32 (x4 + (-1))), iV x5]) (pc := 105) hC dX4_mergeTimes_105 rfl (Nat.le_of_ble_eq_true rfl) rfl ?_
            refine st_iinc (L2 := [rV 13 54, iV x1, iV x2, iV x3, iV (w32 (x4 + (-1))), iV (w32 (x5 + (-1)))]) (pc := 108) hC dX4_mergeTimes_108 rfl (Nat.le_of_ble_eq_true rfl) rfl ?_
            refine st_goto (tg := 30) (pc := 111) hC dX4_mergeTimes_111 (by decide) ?_
            exact h
theorem bX4_widest_0 {C : Nat → List Vv → Sg → Rs → Sg → Prop} {X : Nat → List Vv → List Vv → Sg → Prop} {Xr : List Vv → Sg → Prop} {Xt : Nat → Sg → Prop} (hC : Clo C 4 cX4_widest (some .long) X Xr Xt) {σ : Sg} (h : X 4 [rV 13 54, lV 0, uV, iV 1] [] σ) : X 0 [rV 13 54, uV, uV, uV] [] σ := by
  refine st_lconst0 (pc := 0) hC dX4_widest_0 ?_
  refine st_lstore_n (L2 := [rV 13 54, lV 0, uV, uV]) (pc := 1) hC dX4_widest_1 (Nat.le_of_ble_eq_true rfl) rfl ?_
  refine st_iconst (pc := 2) hC dX4_widest_2 (by decide) ?_
  refine st_istore_n (L2 := [rV 13 54, lV 0, uV, iV 1]) (pc := 3) hC dX4_widest_3 (Nat.le_of_ble_eq_true rfl) rfl ?_
  exact h
theorem bX4_widest_4 {C : Nat → List Vv → Sg → Rs → Sg → Prop} {X : Nat → List Vv → List Vv → Sg → Prop} {Xr : List Vv → Sg → Prop} {Xt : Nat → Sg → Prop} (hC : Clo C 4 cX4_widest (some .long) X Xr Xt) {x1 x3 : Int} {σ : Sg} (h : if x3 < (σ 54 0) then (∃ v1 : Int, C MX4_at [rV 13 54, iV x3] σ (.inl [lV v1]) σ ∧ (∃ v2 : Int, C MX4_at [rV 13 54, iV (w32 (x3 - 1))] σ (.inl [lV v2]) σ ∧ (X 4 [rV 13 54, lV (max x1 (w64 (v1 - v2))), uV, iV (w32 (x3 + 1))] [] σ))) else (Xr [lV x1] σ)) : X 4 [rV 13 54, lV x1, uV, iV x3] [] σ := by
  refine st_iload_n (pc := 4) hC dX4_widest_4 rfl ?_
  refine st_aload_n (pc := 5) hC dX4_widest_5 rfl (by decide) (by decide) ?_
  refine st_getf (ci := 3) (f := 0) (v := iV (σ 54 0)) (pc := 6) hC dX4_widest_6 fl_4_9 rfl rfl ?_
  refine st_icmp_ge (tg := 36) (pc := 9) hC dX4_widest_9 (by decide) (ite_im h (fun h => ?_) (fun h => ?_))
  · refine st_lload_n (pc := 12) hC dX4_widest_12 rfl ?_
    refine st_aload_n (pc := 13) hC dX4_widest_13 rfl (by decide) (by decide) ?_
    refine st_iload_n (pc := 14) hC dX4_widest_14 rfl ?_
    obtain ⟨v1, hq, h⟩ := h
    refine st_invV (As := [iV x3]) (v := [lV v1]) (S := [lV x1]) (pc := 15) hC dX4_widest_15 cl_4_47 rfl rfl (Nat.le_of_ble_eq_true rfl) cr_X4_at hq ?_
    refine st_aload_n (pc := 18) hC dX4_widest_18 rfl (by decide) (by decide) ?_
    refine st_iload_n (pc := 19) hC dX4_widest_19 rfl ?_
    refine st_iconst (pc := 20) hC dX4_widest_20 (by decide) ?_
    refine st_isub (pc := 21) hC dX4_widest_21 ?_
    obtain ⟨v2, hq, h⟩ := h
    refine st_invV (As := [iV (w32 (x3 - 1))]) (v := [lV v2]) (S := [lV v1, lV x1]) (pc := 22) hC dX4_widest_22 cl_4_47 rfl rfl (Nat.le_of_ble_eq_true rfl) cr_X4_at hq ?_
    refine st_lsub (pc := 25) hC dX4_widest_25 ?_
    refine st_lmax (pc := 26) hC dX4_widest_26 rfl (Nat.le_of_ble_eq_true rfl) ?_
    refine st_lstore_n (L2 := [rV 13 54, lV (max x1 (w64 (v1 - v2))), uV, iV x3]) (pc := 29) hC dX4_widest_29 (Nat.le_of_ble_eq_true rfl) rfl ?_
    refine st_iinc (L2 := [rV 13 54, lV (max x1 (w64 (v1 - v2))), uV, iV (w32 (x3 + 1))]) (pc := 30) hC dX4_widest_30 rfl (Nat.le_of_ble_eq_true rfl) rfl ?_
    refine st_goto (tg := 4) (pc := 33) hC dX4_widest_33 (by decide) ?_
    exact h
  · refine st_lload_n (pc := 36) hC dX4_widest_36 rfl ?_
    exact st_lreturn (pc := 37) hC dX4_widest_37 h
theorem bX4_nearestTo_0 {C : Nat → List Vv → Sg → Rs → Sg → Prop} {X : Nat → List Vv → List Vv → Sg → Prop} {Xr : List Vv → Sg → Prop} {Xt : Nat → Sg → Prop} (hC : Clo C 4 cX4_nearestTo (some .long) X Xr Xt) {x1 : Int} {σ : Sg} (h : X 5 [rV 13 54, lV x1, uV, lV 1, uV, iV 1] [] σ) : X 0 [rV 13 54, lV x1, uV, uV, uV, uV] [] σ := by
  refine st_lconst1 (pc := 0) hC dX4_nearestTo_0 ?_
  refine st_lstore_n (L2 := [rV 13 54, lV x1, uV, lV 1, uV, uV]) (pc := 1) hC dX4_nearestTo_1 (Nat.le_of_ble_eq_true rfl) rfl ?_
  refine st_iconst (pc := 2) hC dX4_nearestTo_2 (by decide) ?_
  refine st_istore (L2 := [rV 13 54, lV x1, uV, lV 1, uV, iV 1]) (pc := 3) hC dX4_nearestTo_3 (Nat.le_of_ble_eq_true rfl) rfl ?_
  exact h
theorem bX4_nearestTo_5 {C : Nat → List Vv → Sg → Rs → Sg → Prop} {X : Nat → List Vv → List Vv → Sg → Prop} {Xr : List Vv → Sg → Prop} {Xt : Nat → Sg → Prop} (hC : Clo C 4 cX4_nearestTo (some .long) X Xr Xt) {x1 x3 x5 : Int} {σ : Sg} (h : if x5 < (σ 54 0) then (if (1 : Int) < x1 then (∃ v1 : Int, C MX4_at [rV 13 54, iV x5] σ (.inl [lV v1]) σ ∧ (if (absI (w64 (v1 - x1))) < (absI (w64 (x3 - x1))) then (∃ v2 : Int, C MX4_at [rV 13 54, iV x5] σ (.inl [lV v2]) σ ∧ (X 5 [rV 13 54, lV x1, uV, lV v2, uV, iV (w32 (x5 + 1))] [] σ)) else (X 5 [rV 13 54, lV x1, uV, lV x3, uV, iV (w32 (x5 + 1))] [] σ))) else (Xr [lV x3] σ)) else (Xr [lV x3] σ)) : X 5 [rV 13 54, lV x1, uV, lV x3, uV, iV x5] [] σ := by
  refine st_iload (pc := 5) hC dX4_nearestTo_5 rfl ?_
  refine st_aload_n (pc := 7) hC dX4_nearestTo_7 rfl (by decide) (by decide) ?_
  refine st_getf (ci := 3) (f := 0) (v := iV (σ 54 0)) (pc := 8) hC dX4_nearestTo_8 fl_4_9 rfl rfl ?_
  refine st_icmp_ge (tg := 54) (pc := 11) hC dX4_nearestTo_11 (by decide) (ite_im h (fun h => ?_) (fun h => ?_))
  · refine st_lload_n (pc := 14) hC dX4_nearestTo_14 rfl ?_
    refine st_lconst1 (pc := 15) hC dX4_nearestTo_15 ?_
    refine st_lcmp_le (tg := 54) (pc := 16) hC dX4_nearestTo_16 dX4_nearestTo_17 (by decide) (ite_im h (fun h => ?_) (fun h => ?_))
    · refine st_aload_n (pc := 20) hC dX4_nearestTo_20 rfl (by decide) (by decide) ?_
      refine st_iload (pc := 21) hC dX4_nearestTo_21 rfl ?_
      obtain ⟨v1, hq, h⟩ := h
      refine st_invV (As := [iV x5]) (v := [lV v1]) (S := []) (pc := 23) hC dX4_nearestTo_23 cl_4_47 rfl rfl (Nat.le_of_ble_eq_true rfl) cr_X4_at hq ?_
      refine st_lload_n (pc := 26) hC dX4_nearestTo_26 rfl ?_
      refine st_lsub (pc := 27) hC dX4_nearestTo_27 ?_
      refine st_labs (pc := 28) hC dX4_nearestTo_28 rfl (Nat.le_of_ble_eq_true rfl) ?_
      refine st_lload_n (pc := 31) hC dX4_nearestTo_31 rfl ?_
      refine st_lload_n (pc := 32) hC dX4_nearestTo_32 rfl ?_
      refine st_lsub (pc := 33) hC dX4_nearestTo_33 ?_
      refine st_labs (pc := 34) hC dX4_nearestTo_34 rfl (Nat.le_of_ble_eq_true rfl) ?_
      refine st_lcmp_ge (tg := 48) (pc := 37) hC dX4_nearestTo_37 dX4_nearestTo_38 (by decide) (ite_im h (fun h => ?_) (fun h => ?_))
      · refine st_aload_n (pc := 41) hC dX4_nearestTo_41 rfl (by decide) (by decide) ?_
        refine st_iload (pc := 42) hC dX4_nearestTo_42 rfl ?_
        obtain ⟨v2, hq, h⟩ := h
        refine st_invV (As := [iV x5]) (v := [lV v2]) (S := []) (pc := 44) hC dX4_nearestTo_44 cl_4_47 rfl rfl (Nat.le_of_ble_eq_true rfl) cr_X4_at hq ?_
        refine st_lstore_n (L2 := [rV 13 54, lV x1, uV, lV v2, uV, iV x5]) (pc := 47) hC dX4_nearestTo_47 (Nat.le_of_ble_eq_true rfl) rfl ?_
        refine st_iinc (L2 := [rV 13 54, lV x1, uV, lV v2, uV, iV (w32 (x5 + 1))]) (pc := 48) hC dX4_nearestTo_48 rfl (Nat.le_of_ble_eq_true rfl) rfl ?_
        refine st_goto (tg := 5) (pc := 51) hC dX4_nearestTo_51 (by decide) ?_
        exact h
      · refine st_iinc (L2 := [rV 13 54, lV x1, uV, lV x3, uV, iV (w32 (x5 + 1))]) (pc := 48) hC dX4_nearestTo_48 rfl (Nat.le_of_ble_eq_true rfl) rfl ?_
        refine st_goto (tg := 5) (pc := 51) hC dX4_nearestTo_51 (by decide) ?_
        exact h
    · refine st_lload_n (pc := 54) hC dX4_nearestTo_54 rfl ?_
      exact st_lreturn (pc := 55) hC dX4_nearestTo_55 h
  · refine st_lload_n (pc := 54) hC dX4_nearestTo_54 rfl ?_
    exact st_lreturn (pc := 55) hC dX4_nearestTo_55 h
theorem bX4_rootOf_0 {C : Nat → List Vv → Sg → Rs → Sg → Prop} {X : Nat → List Vv → List Vv → Sg → Prop} {Xr : List Vv → Sg → Prop} {Xt : Nat → Sg → Prop} (hC : Clo C 4 cX4_rootOf (some .long) X Xr Xt) {x1 : Int} {σ : Sg} (h : X 5 [rV 13 54, lV x1, uV, lV 1, uV, iV 1] [] σ) : X 0 [rV 13 54, lV x1, uV, uV, uV, uV] [] σ := by
  refine st_lconst1 (pc := 0) hC dX4_rootOf_0 ?_
  refine st_lstore_n (L2 := [rV 13 54, lV x1, uV, lV 1, uV, uV]) (pc := 1) hC dX4_rootOf_1 (Nat.le_of_ble_eq_true rfl) rfl ?_
  refine st_iconst (pc := 2) hC dX4_rootOf_2 (by decide) ?_
  refine st_istore (L2 := [rV 13 54, lV x1, uV, lV 1, uV, iV 1]) (pc := 3) hC dX4_rootOf_3 (Nat.le_of_ble_eq_true rfl) rfl ?_
  exact h
theorem bX4_rootOf_5 {C : Nat → List Vv → Sg → Rs → Sg → Prop} {X : Nat → List Vv → List Vv → Sg → Prop} {Xr : List Vv → Sg → Prop} {Xt : Nat → Sg → Prop} (hC : Clo C 4 cX4_rootOf (some .long) X Xr Xt) {x1 x3 x5 : Int} {σ : Sg} (h : if x5 < (σ 54 0) then (∃ v1 : Int, C MX4_at [rV 13 54, iV x5] σ (.inl [lV v1]) σ ∧ (if (0 : Int) < v1 then (∃ v2 : Int, C MX4_at [rV 13 54, iV x5] σ (.inl [lV v2]) σ ∧ (∃ v3 : Int, C MX4_at [rV 13 54, iV x5] σ (.inl [lV v3]) σ ∧ (v3 ≠ 0 ∧ (if (w64 (x1.tdiv v3)) < v2 then (X 5 [rV 13 54, lV x1, uV, lV x3, uV, iV (w32 (x5 + 1))] [] σ) else (∃ v4 : Int, C MX4_at [rV 13 54, iV x5] σ (.inl [lV v4]) σ ∧ (X 5 [rV 13 54, lV x1, uV, lV v4, uV, iV (w32 (x5 + 1))] [] σ)))))) else (X 5 [rV 13 54, lV x1, uV, lV x3, uV, iV (w32 (x5 + 1))] [] σ))) else (Xr [lV x3] σ)) : X 5 [rV 13 54, lV x1, uV, lV x3, uV, iV x5] [] σ := by
  refine st_iload (pc := 5) hC dX4_rootOf_5 rfl ?_
  refine st_aload_n (pc := 7) hC dX4_rootOf_7 rfl (by decide) (by decide) ?_
  refine st_getf (ci := 3) (f := 0) (v := iV (σ 54 0)) (pc := 8) hC dX4_rootOf_8 fl_4_9 rfl rfl ?_
  refine st_icmp_ge (tg := 56) (pc := 11) hC dX4_rootOf_11 (by decide) (ite_im h (fun h => ?_) (fun h => ?_))
  · refine st_aload_n (pc := 14) hC dX4_rootOf_14 rfl (by decide) (by decide) ?_
    refine st_iload (pc := 15) hC dX4_rootOf_15 rfl ?_
    obtain ⟨v1, hq, h⟩ := h
    refine st_invV (As := [iV x5]) (v := [lV v1]) (S := []) (pc := 17) hC dX4_rootOf_17 cl_4_47 rfl rfl (Nat.le_of_ble_eq_true rfl) cr_X4_at hq ?_
    refine st_lconst0 (pc := 20) hC dX4_rootOf_20 ?_
    refine st_lcmp_le (tg := 50) (pc := 21) hC dX4_rootOf_21 dX4_rootOf_22 (by decide) (ite_im h (fun h => ?_) (fun h => ?_))
    · refine st_aload_n (pc := 25) hC dX4_rootOf_25 rfl (by decide) (by decide) ?_
      refine st_iload (pc := 26) hC dX4_rootOf_26 rfl ?_
      obtain ⟨v2, hq, h⟩ := h
      refine st_invV (As := [iV x5]) (v := [lV v2]) (S := []) (pc := 28) hC dX4_rootOf_28 cl_4_47 rfl rfl (Nat.le_of_ble_eq_true rfl) cr_X4_at hq ?_
      refine st_lload_n (pc := 31) hC dX4_rootOf_31 rfl ?_
      refine st_aload_n (pc := 32) hC dX4_rootOf_32 rfl (by decide) (by decide) ?_
      refine st_iload (pc := 33) hC dX4_rootOf_33 rfl ?_
      obtain ⟨v3, hq, h⟩ := h
      refine st_invV (As := [iV x5]) (v := [lV v3]) (S := [lV x1, lV v2]) (pc := 35) hC dX4_rootOf_35 cl_4_47 rfl rfl (Nat.le_of_ble_eq_true rfl) cr_X4_at hq ?_
      obtain ⟨h0, h⟩ := h
      refine st_ldiv (pc := 38) hC dX4_rootOf_38 h0 ?_
      refine st_lcmp_gt (tg := 50) (pc := 39) hC dX4_rootOf_39 dX4_rootOf_40 (by decide) (ite_im h (fun h => ?_) (fun h => ?_))
      · refine st_iinc (L2 := [rV 13 54, lV x1, uV, lV x3, uV, iV (w32 (x5 + 1))]) (pc := 50) hC dX4_rootOf_50 rfl (Nat.le_of_ble_eq_true rfl) rfl ?_
        refine st_goto (tg := 5) (pc := 53) hC dX4_rootOf_53 (by decide) ?_
        exact h
      · refine st_aload_n (pc := 43) hC dX4_rootOf_43 rfl (by decide) (by decide) ?_
        refine st_iload (pc := 44) hC dX4_rootOf_44 rfl ?_
        obtain ⟨v4, hq, h⟩ := h
        refine st_invV (As := [iV x5]) (v := [lV v4]) (S := []) (pc := 46) hC dX4_rootOf_46 cl_4_47 rfl rfl (Nat.le_of_ble_eq_true rfl) cr_X4_at hq ?_
        refine st_lstore_n (L2 := [rV 13 54, lV x1, uV, lV v4, uV, iV x5]) (pc := 49) hC dX4_rootOf_49 (Nat.le_of_ble_eq_true rfl) rfl ?_
        refine st_iinc (L2 := [rV 13 54, lV x1, uV, lV v4, uV, iV (w32 (x5 + 1))]) (pc := 50) hC dX4_rootOf_50 rfl (Nat.le_of_ble_eq_true rfl) rfl ?_
        refine st_goto (tg := 5) (pc := 53) hC dX4_rootOf_53 (by decide) ?_
        exact h
    · refine st_iinc (L2 := [rV 13 54, lV x1, uV, lV x3, uV, iV (w32 (x5 + 1))]) (pc := 50) hC dX4_rootOf_50 rfl (Nat.le_of_ble_eq_true rfl) rfl ?_
      refine st_goto (tg := 5) (pc := 53) hC dX4_rootOf_53 (by decide) ?_
      exact h
  · refine st_lload_n (pc := 56) hC dX4_rootOf_56 rfl ?_
    exact st_lreturn (pc := 57) hC dX4_rootOf_57 h
theorem bX4_within_0 {C : Nat → List Vv → Sg → Rs → Sg → Prop} {X : Nat → List Vv → List Vv → Sg → Prop} {Xr : List Vv → Sg → Prop} {Xt : Nat → Sg → Prop} (hC : Clo C 4 cX4_within (some .int) X Xr Xt) {x1 x3 : Int} {σ : Sg} (h : X 6 [rV 13 54, lV x1, uV, lV x3, uV, iV 0, iV 0] [] σ) : X 0 [rV 13 54, lV x1, uV, lV x3, uV, uV, uV] [] σ := by
  refine st_iconst (pc := 0) hC dX4_within_0 (by decide) ?_
  refine st_istore (L2 := [rV 13 54, lV x1, uV, lV x3, uV, iV 0, uV]) (pc := 1) hC dX4_within_1 (Nat.le_of_ble_eq_true rfl) rfl ?_
  refine st_iconst (pc := 3) hC dX4_within_3 (by decide) ?_
  refine st_istore (L2 := [rV 13 54, lV x1, uV, lV x3, uV, iV 0, iV 0]) (pc := 4) hC dX4_within_4 (Nat.le_of_ble_eq_true rfl) rfl ?_
  exact h
theorem bX4_within_6 {C : Nat → List Vv → Sg → Rs → Sg → Prop} {X : Nat → List Vv → List Vv → Sg → Prop} {Xr : List Vv → Sg → Prop} {Xt : Nat → Sg → Prop} (hC : Clo C 4 cX4_within (some .int) X Xr Xt) {x1 x3 x5 x6 : Int} {σ : Sg} (h : if x6 < (σ 54 0) then (∃ v1 : Int, C MX4_at [rV 13 54, iV x6] σ (.inl [lV v1]) σ ∧ (if v1 < x1 then (X 6 [rV 13 54, lV x1, uV, lV x3, uV, iV x5, iV (w32 (x6 + 1))] [] σ) else (∃ v2 : Int, C MX4_at [rV 13 54, iV x6] σ (.inl [lV v2]) σ ∧ (if x3 < v2 then (X 6 [rV 13 54, lV x1, uV, lV x3, uV, iV x5, iV (w32 (x6 + 1))] [] σ) else (X 6 [rV 13 54, lV x1, uV, lV x3, uV, iV (w32 (x5 + 1)), iV (w32 (x6 + 1))] [] σ))))) else (Xr [iV x5] σ)) : X 6 [rV 13 54, lV x1, uV, lV x3, uV, iV x5, iV x6] [] σ := by
  refine st_iload (pc := 6) hC dX4_within_6 rfl ?_
  refine st_aload_n (pc := 8) hC dX4_within_8 rfl (by decide) (by decide) ?_
  refine st_getf (ci := 3) (f := 0) (v := iV (σ 54 0)) (pc := 9) hC dX4_within_9 fl_4_9 rfl rfl ?_
  refine st_icmp_ge (tg := 46) (pc := 12) hC dX4_within_12 (by decide) (ite_im h (fun h => ?_) (fun h => ?_))
  · refine st_aload_n (pc := 15) hC dX4_within_15 rfl (by decide) (by decide) ?_
    refine st_iload (pc := 16) hC dX4_within_16 rfl ?_
    obtain ⟨v1, hq, h⟩ := h
    refine st_invV (As := [iV x6]) (v := [lV v1]) (S := []) (pc := 18) hC dX4_within_18 cl_4_47 rfl rfl (Nat.le_of_ble_eq_true rfl) cr_X4_at hq ?_
    refine st_lload_n (pc := 21) hC dX4_within_21 rfl ?_
    refine st_lcmp_lt (tg := 40) (pc := 22) hC dX4_within_22 dX4_within_23 (by decide) (ite_im h (fun h => ?_) (fun h => ?_))
    · refine st_iinc (L2 := [rV 13 54, lV x1, uV, lV x3, uV, iV x5, iV (w32 (x6 + 1))]) (pc := 40) hC dX4_within_40 rfl (Nat.le_of_ble_eq_true rfl) rfl ?_
      refine st_goto (tg := 6) (pc := 43) hC dX4_within_43 (by decide) ?_
      exact h
    · refine st_aload_n (pc := 26) hC dX4_within_26 rfl (by decide) (by decide) ?_
      refine st_iload (pc := 27) hC dX4_within_27 rfl ?_
      obtain ⟨v2, hq, h⟩ := h
      refine st_invV (As := [iV x6]) (v := [lV v2]) (S := []) (pc := 29) hC dX4_within_29 cl_4_47 rfl rfl (Nat.le_of_ble_eq_true rfl) cr_X4_at hq ?_
      refine st_lload_n (pc := 32) hC dX4_within_32 rfl ?_
      refine st_lcmp_gt (tg := 40) (pc := 33) hC dX4_within_33 dX4_within_34 (by decide) (ite_im h (fun h => ?_) (fun h => ?_))
      · refine st_iinc (L2 := [rV 13 54, lV x1, uV, lV x3, uV, iV x5, iV (w32 (x6 + 1))]) (pc := 40) hC dX4_within_40 rfl (Nat.le_of_ble_eq_true rfl) rfl ?_
        refine st_goto (tg := 6) (pc := 43) hC dX4_within_43 (by decide) ?_
        exact h
      · refine st_iinc (L2 := [rV 13 54, lV x1, uV, lV x3, uV, iV (w32 (x5 + 1)), iV x6]) (pc := 37) hC dX4_within_37 rfl (Nat.le_of_ble_eq_true rfl) rfl ?_
        refine st_iinc (L2 := [rV 13 54, lV x1, uV, lV x3, uV, iV (w32 (x5 + 1)), iV (w32 (x6 + 1))]) (pc := 40) hC dX4_within_40 rfl (Nat.le_of_ble_eq_true rfl) rfl ?_
        refine st_goto (tg := 6) (pc := 43) hC dX4_within_43 (by decide) ?_
        exact h
  · refine st_iload (pc := 46) hC dX4_within_46 rfl ?_
    exact st_ireturn (pc := 48) hC dX4_within_48 trivial h
