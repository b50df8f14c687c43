theorem bX7_kindOf_0 {C : Nat → List Vv → Sg → Rs → Sg → Prop} {X : Nat → List Vv → List Vv → Sg → Prop} {Xr : List Vv → Sg → Prop} {Xt : Nat → Sg → Prop} (hC : Clo C 7 cX7_kindOf (some .int) X Xr Xt) {x1 : Int} {σ : Sg} (h : if x1 < 0 then (Xr [iV 0] σ) else (if x1 < (σ 2 4) then ((0 ≤ x1 ∧ x1 < 701) ∧ (Xr [iV (σ 3 (x1).toNat)] σ)) else (Xr [iV 0] σ))) : X 0 [rV 16 2, iV x1] [] σ := by
  refine st_iload_n (pc := 0) hC dX7_kindOf_0 rfl ?_
  refine st_if_lt (tg := 21) (pc := 1) hC dX7_kindOf_1 (by decide) (ite_im h (fun h => ?_) (fun h => ?_))
  · refine st_iconst (pc := 21) hC dX7_kindOf_21 (by decide) ?_
    exact st_ireturn (pc := 22) hC dX7_kindOf_22 trivial h
  · refine st_iload_n (pc := 4) hC dX7_kindOf_4 rfl ?_
    refine st_aload_n (pc := 5) hC dX7_kindOf_5 rfl (by decide) (by decide) ?_
    refine st_getf (ci := 6) (f := 4) (v := iV (σ 2 4)) (pc := 6) hC dX7_kindOf_6 fl_7_24 rfl rfl ?_
    refine st_icmp_ge (tg := 21) (pc := 9) hC dX7_kindOf_9 (by decide) (ite_im h (fun h => ?_) (fun h => ?_))
    · refine st_aload_n (pc := 12) hC dX7_kindOf_12 rfl (by decide) (by decide) ?_
      refine st_getf (ci := 6) (f := 1) (v := rV 1000701 3) (pc := 13) hC dX7_kindOf_13 fl_7_15 rfl rfl ?_
      refine st_iload_n (pc := 16) hC dX7_kindOf_16 rfl ?_
      obtain ⟨hb, h⟩ := h
      refine st_iald (n := 701) (pc := 17) hC dX7_kindOf_17 (by decide) hb ?_
      refine st_goto (tg := 22) (pc := 18) hC dX7_kindOf_18 (by decide) ?_
      exact st_ireturn (pc := 22) hC dX7_kindOf_22 trivial h
    · refine st_iconst (pc := 21) hC dX7_kindOf_21 (by decide) ?_
      exact st_ireturn (pc := 22) hC dX7_kindOf_22 trivial h
theorem bX7_startOf_0 {C : Nat → List Vv → Sg → Rs → Sg → Prop} {X : Nat → List Vv → List Vv → Sg → Prop} {Xr : List Vv → Sg → Prop} {Xt : Nat → Sg → Prop} (hC : Clo C 7 cX7_startOf (some .int) X Xr Xt) {x1 : Int} {σ : Sg} (h : if x1 < 0 then (Xr [iV (σ 2 5)] σ) else (if x1 < (σ 2 4) then ((0 ≤ x1 ∧ x1 < 701) ∧ (Xr [iV (σ 4 (x1).toNat)] σ)) else (Xr [iV (σ 2 5)] σ))) : X 0 [rV 16 2, iV x1] [] σ := by
  refine st_iload_n (pc := 0) hC dX7_startOf_0 rfl ?_
  refine st_if_lt (tg := 21) (pc := 1) hC dX7_startOf_1 (by decide) (ite_im h (fun h => ?_) (fun h => ?_))
  · refine st_aload_n (pc := 21) hC dX7_startOf_21 rfl (by decide) (by decide) ?_
    refine st_getf (ci := 6) (f := 5) (v := iV (σ 2 5)) (pc := 22) hC dX7_startOf_22 fl_7_28 rfl rfl ?_
    exact st_ireturn (pc := 25) hC dX7_startOf_25 trivial h
  · refine st_iload_n (pc := 4) hC dX7_startOf_4 rfl ?_
    refine st_aload_n (pc := 5) hC dX7_startOf_5 rfl (by decide) (by decide) ?_
    refine st_getf (ci := 6) (f := 4) (v := iV (σ 2 4)) (pc := 6) hC dX7_startOf_6 fl_7_24 rfl rfl ?_
    refine st_icmp_ge (tg := 21) (pc := 9) hC dX7_startOf_9 (by decide) (ite_im h (fun h => ?_) (fun h => ?_))
    · refine st_aload_n (pc := 12) hC dX7_startOf_12 rfl (by decide) (by decide) ?_
      refine st_getf (ci := 6) (f := 2) (v := rV 1000701 4) (pc := 13) hC dX7_startOf_13 fl_7_18 rfl rfl ?_
      refine st_iload_n (pc := 16) hC dX7_startOf_16 rfl ?_
      obtain ⟨hb, h⟩ := h
      refine st_iald (n := 701) (pc := 17) hC dX7_startOf_17 (by decide) hb ?_
      refine st_goto (tg := 25) (pc := 18) hC dX7_startOf_18 (by decide) ?_
      exact st_ireturn (pc := 25) hC dX7_startOf_25 trivial h
    · refine st_aload_n (pc := 21) hC dX7_startOf_21 rfl (by decide) (by decide) ?_
      refine st_getf (ci := 6) (f := 5) (v := iV (σ 2 5)) (pc := 22) hC dX7_startOf_22 fl_7_28 rfl rfl ?_
      exact st_ireturn (pc := 25) hC dX7_startOf_25 trivial h
theorem bX7_valueOf_0 {C : Nat → List Vv → Sg → Rs → Sg → Prop} {X : Nat → List Vv → List Vv → Sg → Prop} {Xr : List Vv → Sg → Prop} {Xt : Nat → Sg → Prop} (hC : Clo C 7 cX7_valueOf (some .int) X Xr Xt) {x1 : Int} {σ : Sg} (h : if x1 < 0 then (Xr [iV 0] σ) else (if x1 < (σ 2 4) then ((0 ≤ x1 ∧ x1 < 701) ∧ (Xr [iV (σ 5 (x1).toNat)] σ)) else (Xr [iV 0] σ))) : X 0 [rV 16 2, iV x1] [] σ := by
  refine st_iload_n (pc := 0) hC dX7_valueOf_0 rfl ?_
  refine st_if_lt (tg := 21) (pc := 1) hC dX7_valueOf_1 (by decide) (ite_im h (fun h => ?_) (fun h => ?_))
  · refine st_iconst (pc := 21) hC dX7_valueOf_21 (by decide) ?_
    exact st_ireturn (pc := 22) hC dX7_valueOf_22 trivial h
  · refine st_iload_n (pc := 4) hC dX7_valueOf_4 rfl ?_
    refine st_aload_n (pc := 5) hC dX7_valueOf_5 rfl (by decide) (by decide) ?_
    refine st_getf (ci := 6) (f := 4) (v := iV (σ 2 4)) (pc := 6) hC dX7_valueOf_6 fl_7_24 rfl rfl ?_
    refine st_icmp_ge (tg := 21) (pc := 9) hC dX7_valueOf_9 (by decide) (ite_im h (fun h => ?_) (fun h => ?_))
    · refine st_aload_n (pc := 12) hC dX7_valueOf_12 rfl (by decide) (by decide) ?_
      refine st_getf (ci := 6) (f := 3) (v := rV 1000701 5) (pc := 13) hC dX7_valueOf_13 fl_7_21 rfl rfl ?_
      refine st_iload_n (pc := 16) hC dX7_valueOf_16 rfl ?_
      obtain ⟨hb, h⟩ := h
      refine st_iald (n := 701) (pc := 17) hC dX7_valueOf_17 (by decide) hb ?_
      refine st_goto (tg := 22) (pc := 18) hC dX7_valueOf_18 (by decide) ?_
      exact st_ireturn (pc := 22) hC dX7_valueOf_22 trivial h
    · refine st_iconst (pc := 21) hC dX7_valueOf_21 (by decide) ?_
      exact st_ireturn (pc := 22) hC dX7_valueOf_22 trivial h
theorem bX7_cutAll_0 {C : Nat → List Vv → Sg → Rs → Sg → Prop} {X : Nat → List Vv → List Vv → Sg → Prop} {Xr : List Vv → Sg → Prop} {Xt : Nat → Sg → Prop} (hC : Clo C 7 cX7_cutAll none X Xr Xt) {x2 : Int} {σ : Sg} (h : ((0 : Int) ≤ 0 ∧ (0 : Int) ≤ 0 ∧ (0 : Int) ≤ ((upS σ 2 5 (max 0 (min x2 (min 700 700)))) 2 5) ∧ (0 : Int) + ((upS σ 2 5 (max 0 (min x2 (min 700 700)))) 2 5) ≤ 700 ∧ (0 : Int) + ((upS σ 2 5 (max 0 (min x2 (min 700 700)))) 2 5) ≤ 700) ∧ (∃ σ1 : Sg, C MX7_skipBlanks [rV 16 2] (upS (cpS (upS σ 2 5 (max 0 (min x2 (min 700 700)))) 6 0 87 0 (((upS σ 2 5 (max 0 (min x2 (min 700 700)))) 2 5)).toNat) 2 6 0) (.inl []) σ1 ∧ (X 50 [rV 16 2, rV 1000700 6, iV x2] [] (upS σ1 2 4 0)))) : X 0 [rV 16 2, rV 1000700 6, iV x2] [] σ := by
  refine st_aload_n (pc := 0) hC dX7_cutAll_0 rfl (by decide) (by decide) ?_
  refine st_iconst (pc := 1) hC dX7_cutAll_1 (by decide) ?_
  refine st_iload_n (pc := 2) hC dX7_cutAll_2 rfl ?_
  refine st_aload_n (pc := 3) hC dX7_cutAll_3 rfl (by decide) (by decide) ?_
  refine st_alen (n := 700) (pc := 4) hC dX7_cutAll_4 (by decide) ?_
  refine st_aload_n (pc := 5) hC dX7_cutAll_5 rfl (by decide) (by decide) ?_
  refine st_getf (ci := 6) (f := 0) (v := rV 1000700 87) (pc := 6) hC dX7_cutAll_6 fl_7_9 rfl rfl ?_
  refine st_alen (n := 700) (pc := 9) hC dX7_cutAll_9 (by decide) ?_
  refine st_mmin (pc := 10) hC dX7_cutAll_10 rfl (Nat.le_of_ble_eq_true rfl) ?_
  refine st_mmin (pc := 13) hC dX7_cutAll_13 rfl (Nat.le_of_ble_eq_true rfl) ?_
  refine st_mmax (pc := 16) hC dX7_cutAll_16 rfl (Nat.le_of_ble_eq_true rfl) ?_
  refine st_putfI (ci := 6) (f := 5) (pc := 19) hC dX7_cutAll_19 fl_7_28 rfl rfl ?_
  refine st_aload_n (pc := 22) hC dX7_cutAll_22 rfl (by decide) (by decide) ?_
  refine st_iconst (pc := 23) hC dX7_cutAll_23 (by decide) ?_
  refine st_aload_n (pc := 24) hC dX7_cutAll_24 rfl (by decide) (by decide) ?_
  refine st_getf (ci := 6) (f := 0) (v := rV 1000700 87) (pc := 25) hC dX7_cutAll_25 fl_7_9 rfl rfl ?_
  refine st_iconst (pc := 28) hC dX7_cutAll_28 (by decide) ?_
  refine st_aload_n (pc := 29) hC dX7_cutAll_29 rfl (by decide) (by decide) ?_
  refine st_getf (ci := 6) (f := 5) (v := iV ((upS σ 2 5 (max 0 (min x2 (min 700 700)))) 2 5)) (pc := 30) hC dX7_cutAll_30 fl_7_28 rfl rfl ?_
  obtain ⟨h0, h⟩ := h
  refine st_cpy (n1 := 700) (n2 := 700) (pc := 33) hC dX7_cutAll_33 rfl (Nat.le_of_ble_eq_true rfl) (by decide) h0 ?_
  refine st_aload_n (pc := 36) hC dX7_cutAll_36 rfl (by decide) (by decide) ?_
  refine st_iconst (pc := 37) hC dX7_cutAll_37 (by decide) ?_
  refine st_putfI (ci := 6) (f := 6) (pc := 38) hC dX7_cutAll_38 fl_7_31 rfl rfl ?_
  refine st_aload_n (pc := 41) hC dX7_cutAll_41 rfl (by decide) (by decide) ?_
  obtain ⟨σ1, hq, h⟩ := h
  refine st_invV (As := []) (v := []) (S := []) (pc := 42) hC dX7_cutAll_42 cl_7_49 rfl rfl (Nat.le_of_ble_eq_true rfl) cr_X7_skipBlanks hq ?_
  refine st_aload_n (pc := 45) hC dX7_cutAll_45 rfl (by decide) (by decide) ?_
  refine st_iconst (pc := 46) hC dX7_cutAll_46 (by decide) ?_
  refine st_putfI (ci := 6) (f := 4) (pc := 47) hC dX7_cutAll_47 fl_7_24 rfl rfl ?_
  exact h
theorem bX7_cutAll_50 {C : Nat → List Vv → Sg → Rs → Sg → Prop} {X : Nat → List Vv → List Vv → Sg → Prop} {Xr : List Vv → Sg → Prop} {Xt : Nat → Sg → Prop} (hC : Clo C 7 cX7_cutAll none X Xr Xt) {x2 : Int} {σ : Sg} (h : if (σ 2 4) < 700 then (if (σ 2 6) < (σ 2 5) then (∃ σ1 : Sg, C MX7_cutOne [rV 16 2] σ (.inl []) σ1 ∧ (∃ σ2 : Sg, C MX7_skipBlanks [rV 16 2] σ1 (.inl []) σ2 ∧ (X 50 [rV 16 2, rV 1000700 6, iV x2] [] (upS σ2 2 4 (w32 ((σ2 2 4) + 1)))))) else (Xr [] σ)) else (Xr [] σ)) : X 50 [rV 16 2, rV 1000700 6, iV x2] [] σ := by
  refine st_aload_n (pc := 50) hC dX7_cutAll_50 rfl (by decide) (by decide) ?_
  refine st_getf (ci := 6) (f := 4) (v := iV (σ 2 4)) (pc := 51) hC dX7_cutAll_51 fl_7_24 rfl rfl ?_
  refine st_sipush (pc := 54) hC dX7_cutAll_54 (by decide) ?_
  refine st_icmp_ge (tg := 92) (pc := 57) hC dX7_cutAll_57 (by decide) (ite_im h (fun h => ?_) (fun h => ?_))
  · refine st_aload_n (pc := 60) hC dX7_cutAll_60 rfl (by decide) (by decide) ?_
    refine st_getf (ci := 6) (f := 6) (v := iV (σ 2 6)) (pc := 61) hC dX7_cutAll_61 fl_7_31 rfl rfl ?_
    refine st_aload_n (pc := 64) hC dX7_cutAll_64 rfl (by decide) (by decide) ?_
    refine st_getf (ci := 6) (f := 5) (v := iV (σ 2 5)) (pc := 65) hC dX7_cutAll_65 fl_7_28 rfl rfl ?_
    refine st_icmp_ge (tg := 92) (pc := 68) hC dX7_cutAll_68 (by decide) (ite_im h (fun h => ?_) (fun h => ?_))
    · refine st_aload_n (pc := 71) hC dX7_cutAll_71 rfl (by decide) (by decide) ?_
      obtain ⟨σ1, hq, h⟩ := h
      refine st_invV (As := []) (v := []) (S := []) (pc := 72) hC dX7_cutAll_72 cl_7_52 rfl rfl (Nat.le_of_ble_eq_true rfl) cr_X7_cutOne hq ?_
      refine st_aload_n (pc := 75) hC dX7_cutAll_75 rfl (by decide) (by decide) ?_
      obtain ⟨σ2, hq, h⟩ := h
      refine st_invV (As := []) (v := []) (S := []) (pc := 76) hC dX7_cutAll_76 cl_7_49 rfl rfl (Nat.le_of_ble_eq_true rfl) cr_X7_skipBlanks hq ?_
      refine st_aload_n (pc := 79) hC dX7_cutAll_79 rfl (by decide) (by decide) ?_
      refine st_dupR (pc := 80) hC dX7_cutAll_80 (by decide) (by decide) ?_
      refine st_getf (ci := 6) (f := 4) (v := iV (σ2 2 4)) (pc := 81) hC dX7_cutAll_81 fl_7_24 rfl rfl ?_
      refine st_iconst (pc := 84) hC dX7_cutAll_84 (by decide) ?_
      refine st_iadd (pc := 85) hC dX7_cutAll_85 ?_
      refine st_putfI (ci := 6) (f := 4) (pc := 86) hC dX7_cutAll_86 fl_7_24 rfl rfl ?_
      refine st_goto (tg := 50) (pc := 89) hC dX7_cutAll_89 (by decide) ?_
      exact h
    · exact st_return (pc := 92) hC dX7_cutAll_92 h
  · exact st_return (pc := 92) hC dX7_cutAll_92 h
theorem bX7_cutOne_0 {C : Nat → List Vv → Sg → Rs → Sg → Prop} {X : Nat → List Vv → List Vv → Sg → Prop} {Xr : List Vv → Sg → Prop} {Xt : Nat → Sg → Prop} (hC : Clo C 7 cX7_cutOne none X Xr Xt) {σ : Sg} (h : (0 ≤ (σ 2 4) ∧ (σ 2 4) < 701) ∧ ((0 ≤ ((upS σ 4 ((σ 2 4)).toNat (σ 2 6)) 2 4) ∧ ((upS σ 4 ((σ 2 4)).toNat (σ 2 6)) 2 4) < 701) ∧ (∃ v1 : Int, C MX7_signAt [rV 16 2, iV ((upS (upS σ 4 ((σ 2 4)).toNat (σ 2 6)) 5 (((upS σ 4 ((σ 2 4)).toNat (σ 2 6)) 2 4)).toNat 0) 2 6)] (upS (upS σ 4 ((σ 2 4)).toNat (σ 2 6)) 5 (((upS σ 4 ((σ 2 4)).toNat (σ 2 6)) 2 4)).toNat 0) (.inl [iV v1]) (upS (upS σ 4 ((σ 2 4)).toNat (σ 2 6)) 5 (((upS σ 4 ((σ 2 4)).toNat (σ 2 6)) 2 4)).toNat 0) ∧ (∃ v2 : Int, C MX7_isLetter [iV v1] (upS (upS σ 4 ((σ 2 4)).toNat (σ 2 6)) 5 (((upS σ 4 ((σ 2 4)).toNat (σ 2 6)) 2 4)).toNat 0) (.inl [iV v2]) (upS (upS σ 4 ((σ 2 4)).toNat (σ 2 6)) 5 (((upS σ 4 ((σ 2 4)).toNat (σ 2 6)) 2 4)).toNat 0) ∧ (if v2 = 0 then (∃ v3 : Int, C MX7_signAt [rV 16 2, iV ((upS (upS σ 4 ((σ 2 4)).toNat (σ 2 6)) 5 (((upS σ 4 ((σ 2 4)).toNat (σ 2 6)) 2 4)).toNat 0) 2 6)] (upS (upS σ 4 ((σ 2 4)).toNat (σ 2 6)) 5 (((upS σ 4 ((σ 2 4)).toNat (σ 2 6)) 2 4)).toNat 0) (.inl [iV v3]) (upS (upS σ 4 ((σ 2 4)).toNat (σ 2 6)) 5 (((upS σ 4 ((σ 2 4)).toNat (σ 2 6)) 2 4)).toNat 0) ∧ (∃ v4 : Int, C MX7_isDigit [iV v3] (upS (upS σ 4 ((σ 2 4)).toNat (σ 2 6)) 5 (((upS σ 4 ((σ 2 4)).toNat (σ 2 6)) 2 4)).toNat 0) (.inl [iV v4]) (upS (upS σ 4 ((σ 2 4)).toNat (σ 2 6)) 5 (((upS σ 4 ((σ 2 4)).toNat (σ 2 6)) 2 4)).toNat 0) ∧ (if v4 = 0 then (∃ v5 : Int, C MX7_signAt [rV 16 2, iV ((upS (upS σ 4 ((σ 2 4)).toNat (σ 2 6)) 5 (((upS σ 4 ((σ 2 4)).toNat (σ 2 6)) 2 4)).toNat 0) 2 6)] (upS (upS σ 4 ((σ 2 4)).toNat (σ 2 6)) 5 (((upS σ 4 ((σ 2 4)).toNat (σ 2 6)) 2 4)).toNat 0) (.inl [iV v5]) (upS (upS σ 4 ((σ 2 4)).toNat (σ 2 6)) 5 (((upS σ 4 ((σ 2 4)).toNat (σ 2 6)) 2 4)).toNat 0) ∧ (if v5 = 59 then ((0 ≤ ((upS (upS σ 4 ((σ 2 4)).toNat (σ 2 6)) 5 (((upS σ 4 ((σ 2 4)).toNat (σ 2 6)) 2 4)).toNat 0) 2 4) ∧ ((upS (upS σ 4 ((σ 2 4)).toNat (σ 2 6)) 5 (((upS σ 4 ((σ 2 4)).toNat (σ 2 6)) 2 4)).toNat 0) 2 4) < 701) ∧ (Xr [] (upS (upS (upS (upS σ 4 ((σ 2 4)).toNat (σ 2 6)) 5 (((upS σ 4 ((σ 2 4)).toNat (σ 2 6)) 2 4)).toNat 0) 3 (((upS (upS σ 4 ((σ 2 4)).toNat (σ 2 6)) 5 (((upS σ 4 ((σ 2 4)).toNat (σ 2 6)) 2 4)).toNat 0) 2 4)).toNat 3) 2 6 (w32 (((upS (upS (upS σ 4 ((σ 2 4)).toNat (σ 2 6)) 5 (((upS σ 4 ((σ 2 4)).toNat (σ 2 6)) 2 4)).toNat 0) 3 (((upS (upS σ 4 ((σ 2 4)).toNat (σ 2 6)) 5 (((upS σ 4 ((σ 2 4)).toNat (σ 2 6)) 2 4)).toNat 0) 2 4)).toNat 3) 2 6) + 1))))) else ((0 ≤ ((upS (upS σ 4 ((σ 2 4)).toNat (σ 2 6)) 5 (((upS σ 4 ((σ 2 4)).toNat (σ 2 6)) 2 4)).toNat 0) 2 4) ∧ ((upS (upS σ 4 ((σ 2 4)).toNat (σ 2 6)) 5 (((upS σ 4 ((σ 2 4)).toNat (σ 2 6)) 2 4)).toNat 0) 2 4) < 701) ∧ (Xr [] (upS (upS (upS (upS σ 4 ((σ 2 4)).toNat (σ 2 6)) 5 (((upS σ 4 ((σ 2 4)).toNat (σ 2 6)) 2 4)).toNat 0) 3 (((upS (upS σ 4 ((σ 2 4)).toNat (σ 2 6)) 5 (((upS σ 4 ((σ 2 4)).toNat (σ 2 6)) 2 4)).toNat 0) 2 4)).toNat 1) 2 6 (w32 (((upS (upS (upS σ 4 ((σ 2 4)).toNat (σ 2 6)) 5 (((upS σ 4 ((σ 2 4)).toNat (σ 2 6)) 2 4)).toNat 0) 3 (((upS (upS σ 4 ((σ 2 4)).toNat (σ 2 6)) 5 (((upS σ 4 ((σ 2 4)).toNat (σ 2 6)) 2 4)).toNat 0) 2 4)).toNat 1) 2 6) + 1))))))) else (∃ v6 : Int, ∃ σ6 : Sg, C MX7_readDigits [rV 16 2] (upS (upS σ 4 ((σ 2 4)).toNat (σ 2 6)) 5 (((upS σ 4 ((σ 2 4)).toNat (σ 2 6)) 2 4)).toNat 0) (.inl [iV v6]) σ6 ∧ ((0 ≤ ((upS (upS σ 4 ((σ 2 4)).toNat (σ 2 6)) 5 (((upS σ 4 ((σ 2 4)).toNat (σ 2 6)) 2 4)).toNat 0) 2 4) ∧ ((upS (upS σ 4 ((σ 2 4)).toNat (σ 2 6)) 5 (((upS σ 4 ((σ 2 4)).toNat (σ 2 6)) 2 4)).toNat 0) 2 4) < 701) ∧ ((0 ≤ ((upS σ6 5 (((upS (upS σ 4 ((σ 2 4)).toNat (σ 2 6)) 5 (((upS σ 4 ((σ 2 4)).toNat (σ 2 6)) 2 4)).toNat 0) 2 4)).toNat v6) 2 4) ∧ ((upS σ6 5 (((upS (upS σ 4 ((σ 2 4)).toNat (σ 2 6)) 5 (((upS σ 4 ((σ 2 4)).toNat (σ 2 6)) 2 4)).toNat 0) 2 4)).toNat v6) 2 4) < 701) ∧ (if (3 : Int) < (w32 (((upS σ6 5 (((upS (upS σ 4 ((σ 2 4)).toNat (σ 2 6)) 5 (((upS σ 4 ((σ 2 4)).toNat (σ 2 6)) 2 4)).toNat 0) 2 4)).toNat v6) 2 6) - ((upS σ6 5 (((upS (upS σ 4 ((σ 2 4)).toNat (σ 2 6)) 5 (((upS σ 4 ((σ 2 4)).toNat (σ 2 6)) 2 4)).toNat 0) 2 4)).toNat v6) 4 (((upS σ6 5 (((upS (upS σ 4 ((σ 2 4)).toNat (σ 2 6)) 5 (((upS σ 4 ((σ 2 4)).toNat (σ 2 6)) 2 4)).toNat 0) 2 4)).toNat v6) 2 4)).toNat))) then ((0 ≤ ((upS σ6 5 (((upS (upS σ 4 ((σ 2 4)).toNat (σ 2 6)) 5 (((upS σ 4 ((σ 2 4)).toNat (σ 2 6)) 2 4)).toNat 0) 2 4)).toNat v6) 2 4) ∧ ((upS σ6 5 (((upS (upS σ 4 ((σ 2 4)).toNat (σ 2 6)) 5 (((upS σ 4 ((σ 2 4)).toNat (σ 2 6)) 2 4)).toNat 0) 2 4)).toNat v6) 2 4) < 701) ∧ (Xr [] (upS (upS σ6 5 (((upS (upS σ 4 ((σ 2 4)).toNat (σ 2 6)) 5 (((upS σ 4 ((σ 2 4)).toNat (σ 2 6)) 2 4)).toNat 0) 2 4)).toNat v6) 3 (((upS σ6 5 (((upS (upS σ 4 ((σ 2 4)).toNat (σ 2 6)) 5 (((upS σ 4 ((σ 2 4)).toNat (σ 2 6)) 2 4)).toNat 0) 2 4)).toNat v6) 2 4)).toNat 1))) else ((0 ≤ ((upS σ6 5 (((upS (upS σ 4 ((σ 2 4)).toNat (σ 2 6)) 5 (((upS σ 4 ((σ 2 4)).toNat (σ 2 6)) 2 4)).toNat 0) 2 4)).toNat v6) 2 4) ∧ ((upS σ6 5 (((upS (upS σ 4 ((σ 2 4)).toNat (σ 2 6)) 5 (((upS σ 4 ((σ 2 4)).toNat (σ 2 6)) 2 4)).toNat 0) 2 4)).toNat v6) 2 4) < 701) ∧ (Xr [] (upS (upS σ6 5 (((upS (upS σ 4 ((σ 2 4)).toNat (σ 2 6)) 5 (((upS σ 4 ((σ 2 4)).toNat (σ 2 6)) 2 4)).toNat 0) 2 4)).toNat v6) 3 (((upS σ6 5 (((upS (upS σ 4 ((σ 2 4)).toNat (σ 2 6)) 5 (((upS σ 4 ((σ 2 4)).toNat (σ 2 6)) 2 4)).toNat 0) 2 4)).toNat v6) 2 4)).toNat 2)))))))))) else (∃ σ7 : Sg, C MX7_skipLetters [rV 16 2] (upS (upS σ 4 ((σ 2 4)).toNat (σ 2 6)) 5 (((upS σ 4 ((σ 2 4)).toNat (σ 2 6)) 2 4)).toNat 0) (.inl []) σ7 ∧ ((0 ≤ (σ7 2 4) ∧ (σ7 2 4) < 701) ∧ (∃ v8 : Int, C MX7_kindOfWord [rV 16 2, iV (σ7 4 ((σ7 2 4)).toNat)] σ7 (.inl [iV v8]) σ7 ∧ ((0 ≤ (σ7 2 4) ∧ (σ7 2 4) < 701) ∧ (Xr [] (upS σ7 3 ((σ7 2 4)).toNat v8))))))))))) : X 0 [rV 16 2] [] σ := by
  refine st_aload_n (pc := 0) hC dX7_cutOne_0 rfl (by decide) (by decide) ?_
  refine st_getf (ci := 6) (f := 2) (v := rV 1000701 4) (pc := 1) hC dX7_cutOne_1 fl_7_18 rfl rfl ?_
  refine st_aload_n (pc := 4) hC dX7_cutOne_4 rfl (by decide) (by decide) ?_
  refine st_getf (ci := 6) (f := 4) (v := iV (σ 2 4)) (pc := 5) hC dX7_cutOne_5 fl_7_24 rfl rfl ?_
  refine st_aload_n (pc := 8) hC dX7_cutOne_8 rfl (by decide) (by decide) ?_
  refine st_getf (ci := 6) (f := 6) (v := iV (σ 2 6)) (pc := 9) hC dX7_cutOne_9 fl_7_31 rfl rfl ?_
  obtain ⟨hb, h⟩ := h
  refine st_iast (n := 701) (pc := 12) hC dX7_cutOne_12 (by decide) hb ?_
  refine st_aload_n (pc := 13) hC dX7_cutOne_13 rfl (by decide) (by decide) ?_
  refine st_getf (ci := 6) (f := 3) (v := rV 1000701 5) (pc := 14) hC dX7_cutOne_14 fl_7_21 rfl rfl ?_
  refine st_aload_n (pc := 17) hC dX7_cutOne_17 rfl (by decide) (by decide) ?_
  refine st_getf (ci := 6) (f := 4) (v := iV ((upS σ 4 ((σ 2 4)).toNat (σ 2 6)) 2 4)) (pc := 18) hC dX7_cutOne_18 fl_7_24 rfl rfl ?_
  refine st_iconst (pc := 21) hC dX7_cutOne_21 (by decide) ?_
  obtain ⟨hb, h⟩ := h
  refine st_iast (n := 701) (pc := 22) hC dX7_cutOne_22 (by decide) hb ?_
  refine st_aload_n (pc := 23) hC dX7_cutOne_23 rfl (by decide) (by decide) ?_
  refine st_aload_n (pc := 24) hC dX7_cutOne_24 rfl (by decide) (by decide) ?_
  refine st_getf (ci := 6) (f := 6) (v := iV ((upS (upS σ 4 ((σ 2 4)).toNat (σ 2 6)) 5 (((upS σ 4 ((σ 2 4)).toNat (σ 2 6)) 2 4)).toNat 0) 2 6)) (pc := 25) hC dX7_cutOne_25 fl_7_31 rfl rfl ?_
  obtain ⟨v1, hq, h⟩ := h
  refine st_invV (As := [iV ((upS (upS σ 4 ((σ 2 4)).toNat (σ 2 6)) 5 (((upS σ 4 ((σ 2 4)).toNat (σ 2 6)) 2 4)).toNat 0) 2 6)]) (v := [iV v1]) (S := []) (pc := 28) hC dX7_cutOne_28 cl_7_55 rfl rfl (Nat.le_of_ble_eq_true rfl) cr_X7_signAt hq ?_
  obtain ⟨v2, hq, h⟩ := h
  refine st_invS (As := [iV v1]) (v := [iV v2]) (S := []) (pc := 31) hC dX7_cutOne_31 cl_7_59 rfl rfl (Nat.le_of_ble_eq_true rfl) hq ?_
  refine st_if_eq (tg := 66) (pc := 34) hC dX7_cutOne_34 (by decide) (ite_im h (fun h => ?_) (fun h => ?_))
  · refine st_aload_n (pc := 66) hC dX7_cutOne_66 rfl (by decide) (by decide) ?_
    refine st_aload_n (pc := 67) hC dX7_cutOne_67 rfl (by decide) (by decide) ?_
    refine st_getf (ci := 6) (f := 6) (v := iV ((upS (upS σ 4 ((σ 2 4)).toNat (σ 2 6)) 5 (((upS σ 4 ((σ 2 4)).toNat (σ 2 6)) 2 4)).toNat 0) 2 6)) (pc := 68) hC dX7_cutOne_68 fl_7_31 rfl rfl ?_
    obtain ⟨v3, hq, h⟩ := h
    refine st_invV (As := [iV ((upS (upS σ 4 ((σ 2 4)).toNat (σ 2 6)) 5 (((upS σ 4 ((σ 2 4)).toNat (σ 2 6)) 2 4)).toNat 0) 2 6)]) (v := [iV v3]) (S := []) (pc := 71) hC dX7_cutOne_71 cl_7_55 rfl rfl (Nat.le_of_ble_eq_true rfl) cr_X7_signAt hq ?_
    obtain ⟨v4, hq, h⟩ := h
    refine st_invS (As := [iV v3]) (v := [iV v4]) (S := []) (pc := 74) hC dX7_cutOne_74 cl_7_69 rfl rfl (Nat.le_of_ble_eq_true rfl) hq ?_
    refine st_if_eq (tg := 128) (pc := 77) hC dX7_cutOne_77 (by decide) (ite_im h (fun h => ?_) (fun h => ?_))
    · refine st_aload_n (pc := 128) hC dX7_cutOne_128 rfl (by decide) (by decide) ?_
      refine st_getf (ci := 6) (f := 1) (v := rV 1000701 3) (pc := 129) hC dX7_cutOne_129 fl_7_15 rfl rfl ?_
      refine st_aload_n (pc := 132) hC dX7_cutOne_132 rfl (by decide) (by decide) ?_
      refine st_getf (ci := 6) (f := 4) (v := iV ((upS (upS σ 4 ((σ 2 4)).toNat (σ 2 6)) 5 (((upS σ 4 ((σ 2 4)).toNat (σ 2 6)) 2 4)).toNat 0) 2 4)) (pc := 133) hC dX7_cutOne_133 fl_7_24 rfl rfl ?_
      refine st_aload_n (pc := 136) hC dX7_cutOne_136 rfl (by decide) (by decide) ?_
      refine st_aload_n (pc := 137) hC dX7_cutOne_137 rfl (by decide) (by decide) ?_
      refine st_getf (ci := 6) (f := 6) (v := iV ((upS (upS σ 4 ((σ 2 4)).toNat (σ 2 6)) 5 (((upS σ 4 ((σ 2 4)).toNat (σ 2 6)) 2 4)).toNat 0) 2 6)) (pc := 138) hC dX7_cutOne_138 fl_7_31 rfl rfl ?_
      obtain ⟨v5, hq, h⟩ := h
      refine st_invV (As := [iV ((upS (upS σ 4 ((σ 2 4)).toNat (σ 2 6)) 5 (((upS σ 4 ((σ 2 4)).toNat (σ 2 6)) 2 4)).toNat 0) 2 6)]) (v := [iV v5]) (S := [iV ((upS (upS σ 4 ((σ 2 4)).toNat (σ 2 6)) 5 (((upS σ 4 ((σ 2 4)).toNat (σ 2 6)) 2 4)).toNat 0) 2 4), rV 1000701 3]) (pc := 141) hC dX7_cutOne_141 cl_7_55 rfl rfl (Nat.le_of_ble_eq_true rfl) cr_X7_signAt hq ?_
      refine st_bipush (pc := 144) hC dX7_cutOne_144 (by decide) ?_
      refine st_icmp_ne (tg := 153) (pc := 146) hC dX7_cutOne_146 (by decide) (ite_im h (fun h => ?_) (fun h => ?_))
      · refine st_iconst (pc := 149) hC dX7_cutOne_149 (by decide) ?_
        refine st_goto (tg := 154) (pc := 150) hC dX7_cutOne_150 (by decide) ?_
        obtain ⟨hb, h⟩ := h
        refine st_iast (n := 701) (pc := 154) hC dX7_cutOne_154 (by decide) hb ?_
        refine st_aload_n (pc := 155) hC dX7_cutOne_155 rfl (by decide) (by decide) ?_
        refine st_dupR (pc := 156) hC dX7_cutOne_156 (by decide) (by decide) ?_
        refine st_getf (ci := 6) (f := 6) (v := iV ((upS (upS (upS σ 4 ((σ 2 4)).toNat (σ 2 6)) 5 (((upS σ 4 ((σ 2 4)).toNat (σ 2 6)) 2 4)).toNat 0) 3 (((upS (upS σ 4 ((σ 2 4)).toNat (σ 2 6)) 5 (((upS σ 4 ((σ 2 4)).toNat (σ 2 6)) 2 4)).toNat 0) 2 4)).toNat 3) 2 6)) (pc := 157) hC dX7_cutOne_157 fl_7_31 rfl rfl ?_
        refine st_iconst (pc := 160) hC dX7_cutOne_160 (by decide) ?_
        refine st_iadd (pc := 161) hC dX7_cutOne_161 ?_
        refine st_putfI (ci := 6) (f := 6) (pc := 162) hC dX7_cutOne_162 fl_7_31 rfl rfl ?_
        exact st_return (pc := 165) hC dX7_cutOne_165 h
      · refine st_iconst (pc := 153) hC dX7_cutOne_153 (by decide) ?_
        obtain ⟨hb, h⟩ := h
        refine st_iast (n := 701) (pc := 154) hC dX7_cutOne_154 (by decide) hb ?_
        refine st_aload_n (pc := 155) hC dX7_cutOne_155 rfl (by decide) (by decide) ?_
        refine st_dupR (pc := 156) hC dX7_cutOne_156 (by decide) (by decide) ?_
        refine st_getf (ci := 6) (f := 6) (v := iV ((upS (upS (upS σ 4 ((σ 2 4)).toNat (σ 2 6)) 5 (((upS σ 4 ((σ 2 4)).toNat (σ 2 6)) 2 4)).toNat 0) 3 (((upS (upS σ 4 ((σ 2 4)).toNat (σ 2 6)) 5 (((upS σ 4 ((σ 2 4)).toNat (σ 2 6)) 2 4)).toNat 0) 2 4)).toNat 1) 2 6)) (pc := 157) hC dX7_cutOne_157 fl_7_31 rfl rfl ?_
        refine st_iconst (pc := 160) hC dX7_cutOne_160 (by decide) ?_
        refine st_iadd (pc := 161) hC dX7_cutOne_161 ?_
        refine st_putfI (ci := 6) (f := 6) (pc := 162) hC dX7_cutOne_162 fl_7_31 rfl rfl ?_
        exact st_return (pc := 165) hC dX7_cutOne_165 h
    · refine st_aload_n (pc := 80) hC dX7_cutOne_80 rfl (by decide) (by decide) ?_
      refine st_getf (ci := 6) (f := 3) (v := rV 1000701 5) (pc := 81) hC dX7_cutOne_81 fl_7_21 rfl rfl ?_
      refine st_aload_n (pc := 84) hC dX7_cutOne_84 rfl (by decide) (by decide) ?_
      refine st_getf (ci := 6) (f := 4) (v := iV ((upS (upS σ 4 ((σ 2 4)).toNat (σ 2 6)) 5 (((upS σ 4 ((σ 2 4)).toNat (σ 2 6)) 2 4)).toNat 0) 2 4)) (pc := 85) hC dX7_cutOne_85 fl_7_24 rfl rfl ?_
      refine st_aload_n (pc := 88) hC dX7_cutOne_88 rfl (by decide) (by decide) ?_
      obtain ⟨v6, σ6, hq, h⟩ := h
      refine st_invV (As := []) (v := [iV v6]) (S := [iV ((upS (upS σ 4 ((σ 2 4)).toNat (σ 2 6)) 5 (((upS σ 4 ((σ 2 4)).toNat (σ 2 6)) 2 4)).toNat 0) 2 4), rV 1000701 5]) (pc := 89) hC dX7_cutOne_89 cl_7_72 rfl rfl (Nat.le_of_ble_eq_true rfl) cr_X7_readDigits hq ?_
      obtain ⟨hb, h⟩ := h
      refine st_iast (n := 701) (pc := 92) hC dX7_cutOne_92 (by decide) hb ?_
      refine st_aload_n (pc := 93) hC dX7_cutOne_93 rfl (by decide) (by decide) ?_
      refine st_getf (ci := 6) (f := 1) (v := rV 1000701 3) (pc := 94) hC dX7_cutOne_94 fl_7_15 rfl rfl ?_
      refine st_aload_n (pc := 97) hC dX7_cutOne_97 rfl (by decide) (by decide) ?_
      refine st_getf (ci := 6) (f := 4) (v := iV ((upS σ6 5 (((upS (upS σ 4 ((σ 2 4)).toNat (σ 2 6)) 5 (((upS σ 4 ((σ 2 4)).toNat (σ 2 6)) 2 4)).toNat 0) 2 4)).toNat v6) 2 4)) (pc := 98) hC dX7_cutOne_98 fl_7_24 rfl rfl ?_
      refine st_aload_n (pc := 101) hC dX7_cutOne_101 rfl (by decide) (by decide) ?_
      refine st_getf (ci := 6) (f := 6) (v := iV ((upS σ6 5 (((upS (upS σ 4 ((σ 2 4)).toNat (σ 2 6)) 5 (((upS σ 4 ((σ 2 4)).toNat (σ 2 6)) 2 4)).toNat 0) 2 4)).toNat v6) 2 6)) (pc := 102) hC dX7_cutOne_102 fl_7_31 rfl rfl ?_
      refine st_aload_n (pc := 105) hC dX7_cutOne_105 rfl (by decide) (by decide) ?_
      refine st_getf (ci := 6) (f := 2) (v := rV 1000701 4) (pc := 106) hC dX7_cutOne_106 fl_7_18 rfl rfl ?_
      refine st_aload_n (pc := 109) hC dX7_cutOne_109 rfl (by decide) (by decide) ?_
      refine st_getf (ci := 6) (f := 4) (v := iV ((upS σ6 5 (((upS (upS σ 4 ((σ 2 4)).toNat (σ 2 6)) 5 (((upS σ 4 ((σ 2 4)).toNat (σ 2 6)) 2 4)).toNat 0) 2 4)).toNat v6) 2 4)) (pc := 110) hC dX7_cutOne_110 fl_7_24 rfl rfl ?_
      obtain ⟨hb, h⟩ := h
      refine st_iald (n := 701) (pc := 113) hC dX7_cutOne_113 (by decide) hb ?_
      refine st_isub (pc := 114) hC dX7_cutOne_114 ?_
      refine st_iconst (pc := 115) hC dX7_cutOne_115 (by decide) ?_
      refine st_icmp_le (tg := 123) (pc := 116) hC dX7_cutOne_116 (by decide) (ite_im h (fun h => ?_) (fun h => ?_))
      · refine st_iconst (pc := 119) hC dX7_cutOne_119 (by decide) ?_
        refine st_goto (tg := 124) (pc := 120) hC dX7_cutOne_120 (by decide) ?_
        obtain ⟨hb, h⟩ := h
        refine st_iast (n := 701) (pc := 124) hC dX7_cutOne_124 (by decide) hb ?_
        refine st_goto (tg := 165) (pc := 125) hC dX7_cutOne_125 (by decide) ?_
        exact st_return (pc := 165) hC dX7_cutOne_165 h
      · refine st_iconst (pc := 123) hC dX7_cutOne_123 (by decide) ?_
        obtain ⟨hb, h⟩ := h
        refine st_iast (n := 701) (pc := 124) hC dX7_cutOne_124 (by decide) hb ?_
        refine st_goto (tg := 165) (pc := 125) hC dX7_cutOne_125 (by decide) ?_
        exact st_return (pc := 165) hC dX7_cutOne_165 h
  · refine st_aload_n (pc := 37) hC dX7_cutOne_37 rfl (by decide) (by decide) ?_
    obtain ⟨σ7, hq, h⟩ := h
    refine st_invV (As := []) (v := []) (S := []) (pc := 38) hC dX7_cutOne_38 cl_7_63 rfl rfl (Nat.le_of_ble_eq_true rfl) cr_X7_skipLetters hq ?_
    refine st_aload_n (pc := 41) hC dX7_cutOne_41 rfl (by decide) (by decide) ?_
    refine st_getf (ci := 6) (f := 1) (v := rV 1000701 3) (pc := 42) hC dX7_cutOne_42 fl_7_15 rfl rfl ?_
    refine st_aload_n (pc := 45) hC dX7_cutOne_45 rfl (by decide) (by decide) ?_
    refine st_getf (ci := 6) (f := 4) (v := iV (σ7 2 4)) (pc := 46) hC dX7_cutOne_46 fl_7_24 rfl rfl ?_
    refine st_aload_n (pc := 49) hC dX7_cutOne_49 rfl (by decide) (by decide) ?_
    refine st_aload_n (pc := 50) hC dX7_cutOne_50 rfl (by decide) (by decide) ?_
    refine st_getf (ci := 6) (f := 2) (v := rV 1000701 4) (pc := 51) hC dX7_cutOne_51 fl_7_18 rfl rfl ?_
    refine st_aload_n (pc := 54) hC dX7_cutOne_54 rfl (by decide) (by decide) ?_
    refine st_getf (ci := 6) (f := 4) (v := iV (σ7 2 4)) (pc := 55) hC dX7_cutOne_55 fl_7_24 rfl rfl ?_
    obtain ⟨hb, h⟩ := h
    refine st_iald (n := 701) (pc := 58) hC dX7_cutOne_58 (by decide) hb ?_
    obtain ⟨v8, hq, h⟩ := h
    refine st_invV (As := [iV (σ7 4 ((σ7 2 4)).toNat)]) (v := [iV v8]) (S := [iV (σ7 2 4), rV 1000701 3]) (pc := 59) hC dX7_cutOne_59 cl_7_66 rfl rfl (Nat.le_of_ble_eq_true rfl) cr_X7_kindOfWord hq ?_
    obtain ⟨hb, h⟩ := h
    refine st_iast (n := 701) (pc := 62) hC dX7_cutOne_62 (by decide) hb ?_
    refine st_goto (tg := 165) (pc := 63) hC dX7_cutOne_63 (by decide) ?_
    exact st_return (pc := 165) hC dX7_cutOne_165 h
theorem bX7_signAt_0 {C : Nat → List Vv → Sg → Rs → Sg → Prop} {X : Nat → List Vv → List Vv → Sg → Prop} {Xr : List Vv → Sg → Prop} {Xt : Nat → Sg → Prop} (hC : Clo C 7 cX7_signAt (some .int) X Xr Xt) {x1 : Int} {σ : Sg} (h : if x1 < 0 then (Xr [iV (-1)] σ) else (if x1 < (σ 2 5) then ((0 ≤ x1 ∧ x1 < 700) ∧ (Xr [iV (σ 87 (x1).toNat)] σ)) else (Xr [iV (-1)] σ))) : X 0 [rV 16 2, iV x1] [] σ := by
  refine st_iload_n (pc := 0) hC dX7_signAt_0 rfl ?_
  refine st_if_lt (tg := 21) (pc := 1) hC dX7_signAt_1 (by decide) (ite_im h (fun h => ?_) (fun h => ?_))
  · refine st_iconst (pc := 21) hC dX7_signAt_21 (by decide) ?_
    exact st_ireturn (pc := 22) hC dX7_signAt_22 trivial h
  · refine st_iload_n (pc := 4) hC dX7_signAt_4 rfl ?_
    refine st_aload_n (pc := 5) hC dX7_signAt_5 rfl (by decide) (by decide) ?_
    refine st_getf (ci := 6) (f := 5) (v := iV (σ 2 5)) (pc := 6) hC dX7_signAt_6 fl_7_28 rfl rfl ?_
    refine st_icmp_ge (tg := 21) (pc := 9) hC dX7_signAt_9 (by decide) (ite_im h (fun h => ?_) (fun h => ?_))
    · refine st_aload_n (pc := 12) hC dX7_signAt_12 rfl (by decide) (by decide) ?_
      refine st_getf (ci := 6) (f := 0) (v := rV 1000700 87) (pc := 13) hC dX7_signAt_13 fl_7_9 rfl rfl ?_
      refine st_iload_n (pc := 16) hC dX7_signAt_16 rfl ?_
      obtain ⟨hb, h⟩ := h
      refine st_iald (n := 700) (pc := 17) hC dX7_signAt_17 (by decide) hb ?_
      refine st_goto (tg := 22) (pc := 18) hC dX7_signAt_18 (by decide) ?_
      exact st_ireturn (pc := 22) hC dX7_signAt_22 trivial h
    · refine st_iconst (pc := 21) hC dX7_signAt_21 (by decide) ?_
      exact st_ireturn (pc := 22) hC dX7_signAt_22 trivial h
theorem bX7_isLetter_0 {C : Nat → List Vv → Sg → Rs → Sg → Prop} {X : Nat → List Vv → List Vv → Sg → Prop} {Xr : List Vv → Sg → Prop} {Xt : Nat → Sg → Prop} (hC : Clo C 7 cX7_isLetter (some .boolean) X Xr Xt) {x0 : Int} {σ : Sg} (h : if x0 < 97 then (Xr [iV 0] σ) else (if (122 : Int) < x0 then (Xr [iV 0] σ) else (Xr [iV 1] σ))) : X 0 [iV x0] [] σ := by
  refine st_iload_n (pc := 0) hC dX7_isLetter_0 rfl ?_
  refine st_bipush (pc := 1) hC dX7_isLetter_1 (by decide) ?_
  refine st_icmp_lt (tg := 16) (pc := 3) hC dX7_isLetter_3 (by decide) (ite_im h (fun h => ?_) (fun h => ?_))
  · refine st_iconst (pc := 16) hC dX7_isLetter_16 (by decide) ?_
    exact st_ireturn (pc := 17) hC dX7_isLetter_17 (Or.inl rfl) h
  · refine st_iload_n (pc := 6) hC dX7_isLetter_6 rfl ?_
    refine st_bipush (pc := 7) hC dX7_isLetter_7 (by decide) ?_
    refine st_icmp_gt (tg := 16) (pc := 9) hC dX7_isLetter_9 (by decide) (ite_im h (fun h => ?_) (fun h => ?_))
    · refine st_iconst (pc := 16) hC dX7_isLetter_16 (by decide) ?_
      exact st_ireturn (pc := 17) hC dX7_isLetter_17 (Or.inl rfl) h
    · refine st_iconst (pc := 12) hC dX7_isLetter_12 (by decide) ?_
      refine st_goto (tg := 17) (pc := 13) hC dX7_isLetter_13 (by decide) ?_
      exact st_ireturn (pc := 17) hC dX7_isLetter_17 (Or.inr rfl) h
theorem bX7_isDigit_0 {C : Nat → List Vv → Sg → Rs → Sg → Prop} {X : Nat → List Vv → List Vv → Sg → Prop} {Xr : List Vv → Sg → Prop} {Xt : Nat → Sg → Prop} (hC : Clo C 7 cX7_isDigit (some .boolean) X Xr Xt) {x0 : Int} {σ : Sg} (h : if x0 < 48 then (Xr [iV 0] σ) else (if (57 : Int) < x0 then (Xr [iV 0] σ) else (Xr [iV 1] σ))) : X 0 [iV x0] [] σ := by
  refine st_iload_n (pc := 0) hC dX7_isDigit_0 rfl ?_
  refine st_bipush (pc := 1) hC dX7_isDigit_1 (by decide) ?_
  refine st_icmp_lt (tg := 16) (pc := 3) hC dX7_isDigit_3 (by decide) (ite_im h (fun h => ?_) (fun h => ?_))
  · refine st_iconst (pc := 16) hC dX7_isDigit_16 (by decide) ?_
    exact st_ireturn (pc := 17) hC dX7_isDigit_17 (Or.inl rfl) h
  · refine st_iload_n (pc := 6) hC dX7_isDigit_6 rfl ?_
    refine st_bipush (pc := 7) hC dX7_isDigit_7 (by decide) ?_
    refine st_icmp_gt (tg := 16) (pc := 9) hC dX7_isDigit_9 (by decide) (ite_im h (fun h => ?_) (fun h => ?_))
    · refine st_iconst (pc := 16) hC dX7_isDigit_16 (by decide) ?_
      exact st_ireturn (pc := 17) hC dX7_isDigit_17 (Or.inl rfl) h
    · refine st_iconst (pc := 12) hC dX7_isDigit_12 (by decide) ?_
      refine st_goto (tg := 17) (pc := 13) hC dX7_isDigit_13 (by decide) ?_
      exact st_ireturn (pc := 17) hC dX7_isDigit_17 (Or.inr rfl) h
theorem bX7_skipBlanks_0 {C : Nat → List Vv → Sg → Rs → Sg → Prop} {X : Nat → List Vv → List Vv → Sg → Prop} {Xr : List Vv → Sg → Prop} {Xt : Nat → Sg → Prop} (hC : Clo C 7 cX7_skipBlanks none X Xr Xt) {σ : Sg} (h : if (σ 2 6) < (σ 2 5) then (∃ v1 : Int, C MX7_signAt [rV 16 2, iV (σ 2 6)] σ (.inl [iV v1]) σ ∧ (if v1 = 10 then (X 0 [rV 16 2] [] (upS σ 2 6 (w32 ((σ 2 6) + 1)))) else (∃ v2 : Int, C MX7_signAt [rV 16 2, iV (σ 2 6)] σ (.inl [iV v2]) σ ∧ (if v2 = 32 then (X 0 [rV 16 2] [] (upS σ 2 6 (w32 ((σ 2 6) + 1)))) else (Xr [] σ))))) else (Xr [] σ)) : X 0 [rV 16 2] [] σ := by
  refine st_aload_n (pc := 0) hC dX7_skipBlanks_0 rfl (by decide) (by decide) ?_
  refine st_getf (ci := 6) (f := 6) (v := iV (σ 2 6)) (pc := 1) hC dX7_skipBlanks_1 fl_7_31 rfl rfl ?_
  refine st_aload_n (pc := 4) hC dX7_skipBlanks_4 rfl (by decide) (by decide) ?_
  refine st_getf (ci := 6) (f := 5) (v := iV (σ 2 5)) (pc := 5) hC dX7_skipBlanks_5 fl_7_28 rfl rfl ?_
  refine st_icmp_ge (tg := 50) (pc := 8) hC dX7_skipBlanks_8 (by decide) (ite_im h (fun h => ?_) (fun h => ?_))
  · refine st_aload_n (pc := 11) hC dX7_skipBlanks_11 rfl (by decide) (by decide) ?_
    refine st_aload_n (pc := 12) hC dX7_skipBlanks_12 rfl (by decide) (by decide) ?_
    refine st_getf (ci := 6) (f := 6) (v := iV (σ 2 6)) (pc := 13) hC dX7_skipBlanks_13 fl_7_31 rfl rfl ?_
    obtain ⟨v1, hq, h⟩ := h
    refine st_invV (As := [iV (σ 2 6)]) (v := [iV v1]) (S := []) (pc := 16) hC dX7_skipBlanks_16 cl_7_55 rfl rfl (Nat.le_of_ble_eq_true rfl) cr_X7_signAt hq ?_
    refine st_bipush (pc := 19) hC dX7_skipBlanks_19 (by decide) ?_
    refine st_icmp_eq (tg := 37) (pc := 21) hC dX7_skipBlanks_21 (by decide) (ite_im h (fun h => ?_) (fun h => ?_))
    · refine st_aload_n (pc := 37) hC dX7_skipBlanks_37 rfl (by decide) (by decide) ?_
      refine st_dupR (pc := 38) hC dX7_skipBlanks_38 (by decide) (by decide) ?_
      refine st_getf (ci := 6) (f := 6) (v := iV (σ 2 6)) (pc := 39) hC dX7_skipBlanks_39 fl_7_31 rfl rfl ?_
      refine st_iconst (pc := 42) hC dX7_skipBlanks_42 (by decide) ?_
      refine st_iadd (pc := 43) hC dX7_skipBlanks_43 ?_
      refine st_putfI (ci := 6) (f := 6) (pc := 44) hC dX7_skipBlanks_44 fl_7_31 rfl rfl ?_
      refine st_goto (tg := 0) (pc := 47) hC dX7_skipBlanks_47 (by decide) ?_
      exact h
    · refine st_aload_n (pc := 24) hC dX7_skipBlanks_24 rfl (by decide) (by decide) ?_
      refine st_aload_n (pc := 25) hC dX7_skipBlanks_25 rfl (by decide) (by decide) ?_
      refine st_getf (ci := 6) (f := 6) (v := iV (σ 2 6)) (pc := 26) hC dX7_skipBlanks_26 fl_7_31 rfl rfl ?_
      obtain ⟨v2, hq, h⟩ := h
      refine st_invV (As := [iV (σ 2 6)]) (v := [iV v2]) (S := []) (pc := 29) hC dX7_skipBlanks_29 cl_7_55 rfl rfl (Nat.le_of_ble_eq_true rfl) cr_X7_signAt hq ?_
      refine st_bipush (pc := 32) hC dX7_skipBlanks_32 (by decide) ?_
      refine st_icmp_ne (tg := 50) (pc := 34) hC dX7_skipBlanks_34 (by decide) (ite_im h (fun h => ?_) (fun h => ?_))
      · refine st_aload_n (pc := 37) hC dX7_skipBlanks_37 rfl (by decide) (by decide) ?_
        refine st_dupR (pc := 38) hC dX7_skipBlanks_38 (by decide) (by decide) ?_
        refine st_getf (ci := 6) (f := 6) (v := iV (σ 2 6)) (pc := 39) hC dX7_skipBlanks_39 fl_7_31 rfl rfl ?_
        refine st_iconst (pc := 42) hC dX7_skipBlanks_42 (by decide) ?_
        refine st_iadd (pc := 43) hC dX7_skipBlanks_43 ?_
        refine st_putfI (ci := 6) (f := 6) (pc := 44) hC dX7_skipBlanks_44 fl_7_31 rfl rfl ?_
        refine st_goto (tg := 0) (pc := 47) hC dX7_skipBlanks_47 (by decide) ?_
        exact h
      · exact st_return (pc := 50) hC dX7_skipBlanks_50 h
  · exact st_return (pc := 50) hC dX7_skipBlanks_50 h
theorem bX7_skipLetters_0 {C : Nat → List Vv → Sg → Rs → Sg → Prop} {X : Nat → List Vv → List Vv → Sg → Prop} {Xr : List Vv → Sg → Prop} {Xt : Nat → Sg → Prop} (hC : Clo C 7 cX7_skipLetters none X Xr Xt) {σ : Sg} (h : if (σ 2 6) < (σ 2 5) then (∃ v1 : Int, C MX7_signAt [rV 16 2, iV (σ 2 6)] σ (.inl [iV v1]) σ ∧ (∃ v2 : Int, C MX7_isLetter [iV v1] σ (.inl [iV v2]) σ ∧ (if v2 = 0 then (Xr [] σ) else (X 0 [rV 16 2] [] (upS σ 2 6 (w32 ((σ 2 6) + 1))))))) else (Xr [] σ)) : X 0 [rV 16 2] [] σ := by
  refine st_aload_n (pc := 0) hC dX7_skipLetters_0 rfl (by decide) (by decide) ?_
  refine st_getf (ci := 6) (f := 6) (v := iV (σ 2 6)) (pc := 1) hC dX7_skipLetters_1 fl_7_31 rfl rfl ?_
  refine st_aload_n (pc := 4) hC dX7_skipLetters_4 rfl (by decide) (by decide) ?_
  refine st_getf (ci := 6) (f := 5) (v := iV (σ 2 5)) (pc := 5) hC dX7_skipLetters_5 fl_7_28 rfl rfl ?_
  refine st_icmp_ge (tg := 38) (pc := 8) hC dX7_skipLetters_8 (by decide) (ite_im h (fun h => ?_) (fun h => ?_))
  · refine st_aload_n (pc := 11) hC dX7_skipLetters_11 rfl (by decide) (by decide) ?_
    refine st_aload_n (pc := 12) hC dX7_skipLetters_12 rfl (by decide) (by decide) ?_
    refine st_getf (ci := 6) (f := 6) (v := iV (σ 2 6)) (pc := 13) hC dX7_skipLetters_13 fl_7_31 rfl rfl ?_
    obtain ⟨v1, hq, h⟩ := h
    refine st_invV (As := [iV (σ 2 6)]) (v := [iV v1]) (S := []) (pc := 16) hC dX7_skipLetters_16 cl_7_55 rfl rfl (Nat.le_of_ble_eq_true rfl) cr_X7_signAt hq ?_
    obtain ⟨v2, hq, h⟩ := h
    refine st_invS (As := [iV v1]) (v := [iV v2]) (S := []) (pc := 19) hC dX7_skipLetters_19 cl_7_59 rfl rfl (Nat.le_of_ble_eq_true rfl) hq ?_
    refine st_if_eq (tg := 38) (pc := 22) hC dX7_skipLetters_22 (by decide) (ite_im h (fun h => ?_) (fun h => ?_))
    · exact st_return (pc := 38) hC dX7_skipLetters_38 h
    · refine st_aload_n (pc := 25) hC dX7_skipLetters_25 rfl (by decide) (by decide) ?_
      refine st_dupR (pc := 26) hC dX7_skipLetters_26 (by decide) (by decide) ?_
      refine st_getf (ci := 6) (f := 6) (v := iV (σ 2 6)) (pc := 27) hC dX7_skipLetters_27 fl_7_31 rfl rfl ?_
      refine st_iconst (pc := 30) hC dX7_skipLetters_30 (by decide) ?_
      refine st_iadd (pc := 31) hC dX7_skipLetters_31 ?_
      refine st_putfI (ci := 6) (f := 6) (pc := 32) hC dX7_skipLetters_32 fl_7_31 rfl rfl ?_
      refine st_goto (tg := 0) (pc := 35) hC dX7_skipLetters_35 (by decide) ?_
      exact h
  · exact st_return (pc := 38) hC dX7_skipLetters_38 h
theorem bX7_readDigits_0 {C : Nat → List Vv → Sg → Rs → Sg → Prop} {X : Nat → List Vv → List Vv → Sg → Prop} {Xr : List Vv → Sg → Prop} {Xt : Nat → Sg → Prop} (hC : Clo C 7 cX7_readDigits (some .int) X Xr Xt) {σ : Sg} (h : X 2 [rV 16 2, iV 0] [] σ) : X 0 [rV 16 2, uV] [] σ := by
  refine st_iconst (pc := 0) hC dX7_readDigits_0 (by decide) ?_
  refine st_istore_n (L2 := [rV 16 2, iV 0]) (pc := 1) hC dX7_readDigits_1 (Nat.le_of_ble_eq_true rfl) rfl ?_
  exact h
theorem bX7_readDigits_2 {C : Nat → List Vv → Sg → Rs → Sg → Prop} {X : Nat → List Vv → List Vv → Sg → Prop} {Xr : List Vv → Sg → Prop} {Xt : Nat → Sg → Prop} (hC : Clo C 7 cX7_readDigits (some .int) X Xr Xt) {x1 : Int} {σ : Sg} (h : if (σ 2 6) < (σ 2 5) then (∃ v1 : Int, C MX7_signAt [rV 16 2, iV (σ 2 6)] σ (.inl [iV v1]) σ ∧ (∃ v2 : Int, C MX7_isDigit [iV v1] σ (.inl [iV v2]) σ ∧ (if v2 = 0 then (Xr [iV x1] σ) else (∃ v3 : Int, C MX7_signAt [rV 16 2, iV (σ 2 6)] σ (.inl [iV v3]) σ ∧ (X 2 [rV 16 2, iV (min (w32 ((w32 ((w32 (x1 * 10)) + v3)) - 48)) 1000)] [] (upS σ 2 6 (w32 ((σ 2 6) + 1)))))))) else (Xr [iV x1] σ)) : X 2 [rV 16 2, iV x1] [] σ := by
  refine st_aload_n (pc := 2) hC dX7_readDigits_2 rfl (by decide) (by decide) ?_
  refine st_getf (ci := 6) (f := 6) (v := iV (σ 2 6)) (pc := 3) hC dX7_readDigits_3 fl_7_31 rfl rfl ?_
  refine st_aload_n (pc := 6) hC dX7_readDigits_6 rfl (by decide) (by decide) ?_
  refine st_getf (ci := 6) (f := 5) (v := iV (σ 2 5)) (pc := 7) hC dX7_readDigits_7 fl_7_28 rfl rfl ?_
  refine st_icmp_ge (tg := 63) (pc := 10) hC dX7_readDigits_10 (by decide) (ite_im h (fun h => ?_) (fun h => ?_))
  · refine st_aload_n (pc := 13) hC dX7_readDigits_13 rfl (by decide) (by decide) ?_
    refine st_aload_n (pc := 14) hC dX7_readDigits_14 rfl (by decide) (by decide) ?_
    refine st_getf (ci := 6) (f := 6) (v := iV (σ 2 6)) (pc := 15) hC dX7_readDigits_15 fl_7_31 rfl rfl ?_
    obtain ⟨v1, hq, h⟩ := h
    refine st_invV (As := [iV (σ 2 6)]) (v := [iV v1]) (S := []) (pc := 18) hC dX7_readDigits_18 cl_7_55 rfl rfl (Nat.le_of_ble_eq_true rfl) cr_X7_signAt hq ?_
    obtain ⟨v2, hq, h⟩ := h
    refine st_invS (As := [iV v1]) (v := [iV v2]) (S := []) (pc := 21) hC dX7_readDigits_21 cl_7_69 rfl rfl (Nat.le_of_ble_eq_true rfl) hq ?_
    refine st_if_eq (tg := 63) (pc := 24) hC dX7_readDigits_24 (by decide) (ite_im h (fun h => ?_) (fun h => ?_))
    · refine st_iload_n (pc := 63) hC dX7_readDigits_63 rfl ?_
      exact st_ireturn (pc := 64) hC dX7_readDigits_64 trivial h
    · refine st_iload_n (pc := 27) hC dX7_readDigits_27 rfl ?_
      refine st_bipush (pc := 28) hC dX7_readDigits_28 (by decide) ?_
      refine st_imul (pc := 30) hC dX7_readDigits_30 ?_
      refine st_aload_n (pc := 31) hC dX7_readDigits_31 rfl (by decide) (by decide) ?_
      refine st_aload_n (pc := 32) hC dX7_readDigits_32 rfl (by decide) (by decide) ?_
      refine st_getf (ci := 6) (f := 6) (v := iV (σ 2 6)) (pc := 33) hC dX7_readDigits_33 fl_7_31 rfl rfl ?_
      obtain ⟨v3, hq, h⟩ := h
      refine st_invV (As := [iV (σ 2 6)]) (v := [iV v3]) (S := [iV (w32 (x1 * 10))]) (pc := 36) hC dX7_readDigits_36 cl_7_55 rfl rfl (Nat.le_of_ble_eq_true rfl) cr_X7_signAt hq ?_
      refine st_iadd (pc := 39) hC dX7_readDigits_39 ?_
      refine st_bipush (pc := 40) hC dX7_readDigits_40 (by decide) ?_
      refine st_isub (pc := 42) hC dX7_readDigits_42 ?_
      refine st_sipush (pc := 43) hC dX7_readDigits_43 (by decide) ?_
      refine st_mmin (pc := 46) hC dX7_readDigits_46 rfl (Nat.le_of_ble_eq_true rfl) ?_
      refine st_istore_n (L2 := [rV 16 2, iV (min (w32 ((w32 ((w32 (x1 * 10)) + v3)) - 48)) 1000)]) (pc := 49) hC dX7_readDigits_49 (Nat.le_of_ble_eq_true rfl) rfl ?_
      refine st_aload_n (pc := 50) hC dX7_readDigits_50 rfl (by decide) (by decide) ?_
      refine st_dupR (pc := 51) hC dX7_readDigits_51 (by decide) (by decide) ?_
      refine st_getf (ci := 6) (f := 6) (v := iV (σ 2 6)) (pc := 52) hC dX7_readDigits_52 fl_7_31 rfl rfl ?_
      refine st_iconst (pc := 55) hC dX7_readDigits_55 (by decide) ?_
      refine st_iadd (pc := 56) hC dX7_readDigits_56 ?_
      refine st_putfI (ci := 6) (f := 6) (pc := 57) hC dX7_readDigits_57 fl_7_31 rfl rfl ?_
      refine st_goto (tg := 2) (pc := 60) hC dX7_readDigits_60 (by decide) ?_
      exact h
  · refine st_iload_n (pc := 63) hC dX7_readDigits_63 rfl ?_
    exact st_ireturn (pc := 64) hC dX7_readDigits_64 trivial h
theorem bX7_kindOfWord_0 {C : Nat → List Vv → Sg → Rs → Sg → Prop} {X : Nat → List Vv → List Vv → Sg → Prop} {Xr : List Vv → Sg → Prop} {Xt : Nat → Sg → Prop} (hC : Clo C 7 cX7_kindOfWord (some .int) X Xr Xt) {x1 : Int} {σ : Sg} (h : ∃ v1 : Int, C MX7_isWord [rV 16 2, iV x1, rV 30 1000] σ (.inl [iV v1]) σ ∧ (if v1 = 0 then (∃ v2 : Int, C MX7_isWord [rV 16 2, iV x1, rV 30 1001] σ (.inl [iV v2]) σ ∧ (if v2 = 0 then (∃ v3 : Int, C MX7_isWord [rV 16 2, iV x1, rV 30 1002] σ (.inl [iV v3]) σ ∧ (if v3 = 0 then (∃ v4 : Int, C MX7_isWord [rV 16 2, iV x1, rV 30 1003] σ (.inl [iV v4]) σ ∧ (if v4 = 0 then (∃ v5 : Int, C MX7_isWord [rV 16 2, iV x1, rV 30 1004] σ (.inl [iV v5]) σ ∧ (if v5 = 0 then (Xr [iV 4] σ) else (Xr [iV 9] σ))) else (Xr [iV 8] σ))) else (Xr [iV 7] σ))) else (Xr [iV 6] σ))) else (Xr [iV 5] σ))) : X 0 [rV 16 2, iV x1] [] σ := by
  refine st_aload_n (pc := 0) hC dX7_kindOfWord_0 rfl (by decide) (by decide) ?_
  refine st_iload_n (pc := 1) hC dX7_kindOfWord_1 rfl ?_
  refine st_ldcS (j := 0) (pc := 2) hC dX7_kindOfWord_2 rfl ?_
  obtain ⟨v1, hq, h⟩ := h
  refine st_invV (As := [iV x1, rV 30 1000]) (v := [iV v1]) (S := []) (pc := 4) hC dX7_kindOfWord_4 cl_7_78 rfl rfl (Nat.le_of_ble_eq_true rfl) cr_X7_isWord hq ?_
  refine st_if_eq (tg := 12) (pc := 7) hC dX7_kindOfWord_7 (by decide) (ite_im h (fun h => ?_) (fun h => ?_))
  · refine st_aload_n (pc := 12) hC dX7_kindOfWord_12 rfl (by decide) (by decide) ?_
    refine st_iload_n (pc := 13) hC dX7_kindOfWord_13 rfl ?_
    refine st_ldcS (j := 1) (pc := 14) hC dX7_kindOfWord_14 rfl ?_
    obtain ⟨v2, hq, h⟩ := h
    refine st_invV (As := [iV x1, rV 30 1001]) (v := [iV v2]) (S := []) (pc := 16) hC dX7_kindOfWord_16 cl_7_78 rfl rfl (Nat.le_of_ble_eq_true rfl) cr_X7_isWord hq ?_
    refine st_if_eq (tg := 25) (pc := 19) hC dX7_kindOfWord_19 (by decide) (ite_im h (fun h => ?_) (fun h => ?_))
    · refine st_aload_n (pc := 25) hC dX7_kindOfWord_25 rfl (by decide) (by decide) ?_
      refine st_iload_n (pc := 26) hC dX7_kindOfWord_26 rfl ?_
      refine st_ldcS (j := 2) (pc := 27) hC dX7_kindOfWord_27 rfl ?_
      obtain ⟨v3, hq, h⟩ := h
      refine st_invV (As := [iV x1, rV 30 1002]) (v := [iV v3]) (S := []) (pc := 29) hC dX7_kindOfWord_29 cl_7_78 rfl rfl (Nat.le_of_ble_eq_true rfl) cr_X7_isWord hq ?_
      refine st_if_eq (tg := 38) (pc := 32) hC dX7_kindOfWord_32 (by decide) (ite_im h (fun h => ?_) (fun h => ?_))
      · refine st_aload_n (pc := 38) hC dX7_kindOfWord_38 rfl (by decide) (by decide) ?_
        refine st_iload_n (pc := 39) hC dX7_kindOfWord_39 rfl ?_
        refine st_ldcS (j := 3) (pc := 40) hC dX7_kindOfWord_40 rfl ?_
        obtain ⟨v4, hq, h⟩ := h
        refine st_invV (As := [iV x1, rV 30 1003]) (v := [iV v4]) (S := []) (pc := 42) hC dX7_kindOfWord_42 cl_7_78 rfl rfl (Nat.le_of_ble_eq_true rfl) cr_X7_isWord hq ?_
        refine st_if_eq (tg := 51) (pc := 45) hC dX7_kindOfWord_45 (by decide) (ite_im h (fun h => ?_) (fun h => ?_))
        · refine st_aload_n (pc := 51) hC dX7_kindOfWord_51 rfl (by decide) (by decide) ?_
          refine st_iload_n (pc := 52) hC dX7_kindOfWord_52 rfl ?_
          refine st_ldcS (j := 4) (pc := 53) hC dX7_kindOfWord_53 rfl ?_
          obtain ⟨v5, hq, h⟩ := h
          refine st_invV (As := [iV x1, rV 30 1004]) (v := [iV v5]) (S := []) (pc := 55) hC dX7_kindOfWord_55 cl_7_78 rfl rfl (Nat.le_of_ble_eq_true rfl) cr_X7_isWord hq ?_
          refine st_if_eq (tg := 66) (pc := 58) hC dX7_kindOfWord_58 (by decide) (ite_im h (fun h => ?_) (fun h => ?_))
          · refine st_iconst (pc := 66) hC dX7_kindOfWord_66 (by decide) ?_
            exact st_ireturn (pc := 67) hC dX7_kindOfWord_67 trivial h
          · refine st_bipush (pc := 61) hC dX7_kindOfWord_61 (by decide) ?_
            refine st_goto (tg := 67) (pc := 63) hC dX7_kindOfWord_63 (by decide) ?_
            exact st_ireturn (pc := 67) hC dX7_kindOfWord_67 trivial h
        · refine st_bipush (pc := 48) hC dX7_kindOfWord_48 (by decide) ?_
          exact st_ireturn (pc := 50) hC dX7_kindOfWord_50 trivial h
      · refine st_bipush (pc := 35) hC dX7_kindOfWord_35 (by decide) ?_
        exact st_ireturn (pc := 37) hC dX7_kindOfWord_37 trivial h
    · refine st_bipush (pc := 22) hC dX7_kindOfWord_22 (by decide) ?_
      exact st_ireturn (pc := 24) hC dX7_kindOfWord_24 trivial h
  · refine st_iconst (pc := 10) hC dX7_kindOfWord_10 (by decide) ?_
    exact st_ireturn (pc := 11) hC dX7_kindOfWord_11 trivial h
theorem bX7_isWord_0 {C : Nat → List Vv → Sg → Rs → Sg → Prop} {X : Nat → List Vv → List Vv → Sg → Prop} {Xr : List Vv → Sg → Prop} {Xt : Nat → Sg → Prop} (hC : Clo C 7 cX7_isWord (some .boolean) X Xr Xt) {x1 : Int} {t2 : Nat} {σ : Sg} (h : t2 < 1000 + SLen.length ∧ (∃ v1 : Int, C MJ0_length_8abf5 [rV 30 t2] σ (.inl [iV v1]) σ ∧ (if (w32 ((σ 2 6) - x1)) = v1 then (X 17 [rV 16 2, iV x1, rV 30 t2, iV 0] [] σ) else (Xr [iV 0] σ)))) : X 0 [rV 16 2, iV x1, rV 30 t2, uV] [] σ := by
  refine st_aload_n (pc := 0) hC dX7_isWord_0 rfl (by decide) (by decide) ?_
  refine st_getf (ci := 6) (f := 6) (v := iV (σ 2 6)) (pc := 1) hC dX7_isWord_1 fl_7_31 rfl rfl ?_
  refine st_iload_n (pc := 4) hC dX7_isWord_4 rfl ?_
  refine st_isub (pc := 5) hC dX7_isWord_5 ?_
  refine st_aload_n (pc := 6) hC dX7_isWord_6 rfl (by decide) (by decide) ?_
  obtain ⟨h00, h⟩ := h
  obtain ⟨v1, hq, h⟩ := h
  refine st_invT (As := []) (v := [iV v1]) (S := [iV (w32 ((σ 2 6) - x1))]) (pc := 7) hC dX7_isWord_7 cl_7_90 rfl rfl (Nat.le_of_ble_eq_true rfl) h00 rfl hq ?_
  refine st_icmp_eq (tg := 15) (pc := 10) hC dX7_isWord_10 (by decide) (ite_im h (fun h => ?_) (fun h => ?_))
  · refine st_iconst (pc := 15) hC dX7_isWord_15 (by decide) ?_
    refine st_istore_n (L2 := [rV 16 2, iV x1, rV 30 t2, iV 0]) (pc := 16) hC dX7_isWord_16 (Nat.le_of_ble_eq_true rfl) rfl ?_
    exact h
  · refine st_iconst (pc := 13) hC dX7_isWord_13 (by decide) ?_
    exact st_ireturn (pc := 14) hC dX7_isWord_14 (Or.inl rfl) h
theorem bX7_isWord_17 {C : Nat → List Vv → Sg → Rs → Sg → Prop} {X : Nat → List Vv → List Vv → Sg → Prop} {Xr : List Vv → Sg → Prop} {Xt : Nat → Sg → Prop} (hC : Clo C 7 cX7_isWord (some .boolean) X Xr Xt) {x1 x3 : Int} {t2 : Nat} {σ : Sg} (h : t2 < 1000 + SLen.length ∧ (∃ v1 : Int, C MJ0_length_8abf5 [rV 30 t2] σ (.inl [iV v1]) σ ∧ (if x3 < v1 then (∃ v2 : Int, C MX7_signAt [rV 16 2, iV (w32 (x1 + x3))] σ (.inl [iV v2]) σ ∧ (t2 < 1000 + SLen.length ∧ (∃ v3 : Int, C MJ0_charAt_5068e [rV 30 t2, iV x3] σ (.inl [iV v3]) σ ∧ (if v2 = v3 then (X 17 [rV 16 2, iV x1, rV 30 t2, iV (w32 (x3 + 1))] [] σ) else (Xr [iV 0] σ))))) else (Xr [iV 1] σ)))) : X 17 [rV 16 2, iV x1, rV 30 t2, iV x3] [] σ := by
  refine st_iload_n (pc := 17) hC dX7_isWord_17 rfl ?_
  refine st_aload_n (pc := 18) hC dX7_isWord_18 rfl (by decide) (by decide) ?_
  obtain ⟨h00, h⟩ := h
  obtain ⟨v1, hq, h⟩ := h
  refine st_invT (As := []) (v := [iV v1]) (S := [iV x3]) (pc := 19) hC dX7_isWord_19 cl_7_90 rfl rfl (Nat.le_of_ble_eq_true rfl) h00 rfl hq ?_
  refine st_icmp_ge (tg := 48) (pc := 22) hC dX7_isWord_22 (by decide) (ite_im h (fun h => ?_) (fun h => ?_))
  · refine st_aload_n (pc := 25) hC dX7_isWord_25 rfl (by decide) (by decide) ?_
    refine st_iload_n (pc := 26) hC dX7_isWord_26 rfl ?_
    refine st_iload_n (pc := 27) hC dX7_isWord_27 rfl ?_
    refine st_iadd (pc := 28) hC dX7_isWord_28 ?_
    obtain ⟨v2, hq, h⟩ := h
    refine st_invV (As := [iV (w32 (x1 + x3))]) (v := [iV v2]) (S := []) (pc := 29) hC dX7_isWord_29 cl_7_55 rfl rfl (Nat.le_of_ble_eq_true rfl) cr_X7_signAt hq ?_
    refine st_aload_n (pc := 32) hC dX7_isWord_32 rfl (by decide) (by decide) ?_
    refine st_iload_n (pc := 33) hC dX7_isWord_33 rfl ?_
    obtain ⟨h00, h⟩ := h
    obtain ⟨v3, hq, h⟩ := h
    refine st_invT (As := [iV x3]) (v := [iV v3]) (S := [iV v2]) (pc := 34) hC dX7_isWord_34 cl_7_94 rfl rfl (Nat.le_of_ble_eq_true rfl) h00 rfl hq ?_
    refine st_icmp_eq (tg := 42) (pc := 37) hC dX7_isWord_37 (by decide) (ite_im h (fun h => ?_) (fun h => ?_))
    · refine st_iinc (L2 := [rV 16 2, iV x1, rV 30 t2, iV (w32 (x3 + 1))]) (pc := 42) hC dX7_isWord_42 rfl (Nat.le_of_ble_eq_true rfl) rfl ?_
      refine st_goto (tg := 17) (pc := 45) hC dX7_isWord_45 (by decide) ?_
      exact h
    · refine st_iconst (pc := 40) hC dX7_isWord_40 (by decide) ?_
      exact st_ireturn (pc := 41) hC dX7_isWord_41 (Or.inl rfl) h
  · refine st_iconst (pc := 48) hC dX7_isWord_48 (by decide) ?_
    exact st_ireturn (pc := 49) hC dX7_isWord_49 (Or.inr rfl) h
