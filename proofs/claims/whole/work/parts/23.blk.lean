theorem bX1_forgive_0 {C : Nat → List Vv → Sg → Rs → Sg → Prop} {X : Nat → List Vv → List Vv → Sg → Prop} {Xr : List Vv → Sg → Prop} {Xt : Nat → Sg → Prop} (hC : Clo C 1 cX1_forgive none X Xr Xt) {t0 : Nat} {σ : Sg} (h : ∃ σ1 : Sg, C MJ7_fill_d0a16 [rV 2000025 (t0 + 1), lV 1] σ (.inl []) σ1 ∧ (Xr [] σ1)) : X 0 [rV 11 t0] [] σ := by
  refine st_aload_n (pc := 0) hC dX1_forgive_0 rfl (by decide) (by decide) ?_
  refine st_getf (ci := 1) (f := 0) (v := rV 2000025 (t0 + 1)) (pc := 1) hC dX1_forgive_1 fl_1_9 rfl rfl ?_
  refine st_lconst1 (pc := 4) hC dX1_forgive_4 ?_
  obtain ⟨σ1, hq, h⟩ := h
  refine st_invS (As := [rV 2000025 (t0 + 1), lV 1]) (v := []) (S := []) (pc := 5) hC dX1_forgive_5 cl_1_15 rfl rfl (Nat.le_of_ble_eq_true rfl) hq ?_
  exact st_return (pc := 8) hC dX1_forgive_8 h
theorem bX1_takeOver_0 {C : Nat → List Vv → Sg → Rs → Sg → Prop} {X : Nat → List Vv → List Vv → Sg → Prop} {Xr : List Vv → Sg → Prop} {Xt : Nat → Sg → Prop} (hC : Clo C 1 cX1_takeOver none X Xr Xt) {t0 t1 : Nat} {σ : Sg} (h : Xr [] (cpS σ (t1 + 1) 0 (t0 + 1) 0 25)) : X 0 [rV 11 t0, rV 11 t1] [] σ := by
  refine st_aload_n (pc := 0) hC dX1_takeOver_0 rfl (by decide) (by decide) ?_
  refine st_getf (ci := 1) (f := 0) (v := rV 2000025 (t1 + 1)) (pc := 1) hC dX1_takeOver_1 fl_1_9 rfl rfl ?_
  refine st_iconst (pc := 4) hC dX1_takeOver_4 (by decide) ?_
  refine st_aload_n (pc := 5) hC dX1_takeOver_5 rfl (by decide) (by decide) ?_
  refine st_getf (ci := 1) (f := 0) (v := rV 2000025 (t0 + 1)) (pc := 6) hC dX1_takeOver_6 fl_1_9 rfl rfl ?_
  refine st_iconst (pc := 9) hC dX1_takeOver_9 (by decide) ?_
  refine st_aload_n (pc := 10) hC dX1_takeOver_10 rfl (by decide) (by decide) ?_
  refine st_getf (ci := 1) (f := 0) (v := rV 2000025 (t0 + 1)) (pc := 11) hC dX1_takeOver_11 fl_1_9 rfl rfl ?_
  refine st_alen (n := 25) (pc := 14) hC dX1_takeOver_14 (by decide) ?_
  refine st_cpy (n1 := 25) (n2 := 25) (pc := 15) hC dX1_takeOver_15 rfl (Nat.le_of_ble_eq_true rfl) (by decide) (by decide) ?_
  exact st_return (pc := 18) hC dX1_takeOver_18 h
theorem bX1_isPair_0 {C : Nat → List Vv → Sg → Rs → Sg → Prop} {X : Nat → List Vv → List Vv → Sg → Prop} {Xr : List Vv → Sg → Prop} {Xt : Nat → Sg → Prop} (hC : Clo C 1 cX1_isPair (some .boolean) X Xr Xt) {x0 x1 : Int} {σ : Sg} (h : if x0 < 0 then (Xr [iV 0] σ) else (if x0 < 5 then (if x1 < 0 then (Xr [iV 0] σ) else (if x1 < 5 then (Xr [iV 1] σ) else (Xr [iV 0] σ))) else (Xr [iV 0] σ))) : X 0 [iV x0, iV x1] [] σ := by
  refine st_iload_n (pc := 0) hC dX1_isPair_0 rfl ?_
  refine st_if_lt (tg := 22) (pc := 1) hC dX1_isPair_1 (by decide) (ite_im h (fun h => ?_) (fun h => ?_))
  · refine st_iconst (pc := 22) hC dX1_isPair_22 (by decide) ?_
    exact st_ireturn (pc := 23) hC dX1_isPair_23 (Or.inl rfl) h
  · refine st_iload_n (pc := 4) hC dX1_isPair_4 rfl ?_
    refine st_iconst (pc := 5) hC dX1_isPair_5 (by decide) ?_
    refine st_icmp_ge (tg := 22) (pc := 6) hC dX1_isPair_6 (by decide) (ite_im h (fun h => ?_) (fun h => ?_))
    · refine st_iload_n (pc := 9) hC dX1_isPair_9 rfl ?_
      refine st_if_lt (tg := 22) (pc := 10) hC dX1_isPair_10 (by decide) (ite_im h (fun h => ?_) (fun h => ?_))
      · refine st_iconst (pc := 22) hC dX1_isPair_22 (by decide) ?_
        exact st_ireturn (pc := 23) hC dX1_isPair_23 (Or.inl rfl) h
      · refine st_iload_n (pc := 13) hC dX1_isPair_13 rfl ?_
        refine st_iconst (pc := 14) hC dX1_isPair_14 (by decide) ?_
        refine st_icmp_ge (tg := 22) (pc := 15) hC dX1_isPair_15 (by decide) (ite_im h (fun h => ?_) (fun h => ?_))
        · refine st_iconst (pc := 18) hC dX1_isPair_18 (by decide) ?_
          refine st_goto (tg := 23) (pc := 19) hC dX1_isPair_19 (by decide) ?_
          exact st_ireturn (pc := 23) hC dX1_isPair_23 (Or.inr rfl) h
        · refine st_iconst (pc := 22) hC dX1_isPair_22 (by decide) ?_
          exact st_ireturn (pc := 23) hC dX1_isPair_23 (Or.inl rfl) h
    · refine st_iconst (pc := 22) hC dX1_isPair_22 (by decide) ?_
      exact st_ireturn (pc := 23) hC dX1_isPair_23 (Or.inl rfl) h
theorem bX1_of_0 {C : Nat → List Vv → Sg → Rs → Sg → Prop} {X : Nat → List Vv → List Vv → Sg → Prop} {Xr : List Vv → Sg → Prop} {Xt : Nat → Sg → Prop} (hC : Clo C 1 cX1_of (some .long) X Xr Xt) {x1 x2 : Int} {t0 : Nat} {σ : Sg} (h : ∃ v1 : Int, C MX1_isPair [iV x1, iV x2] σ (.inl [iV v1]) σ ∧ (if v1 = 0 then (Xr [lV 1] σ) else ((0 ≤ (w32 ((w32 (x1 * 5)) + x2)) ∧ (w32 ((w32 (x1 * 5)) + x2)) < 25) ∧ (Xr [lV (σ (t0 + 1) ((w32 ((w32 (x1 * 5)) + x2))).toNat)] σ)))) : X 0 [rV 11 t0, iV x1, iV x2] [] σ := by
  refine st_iload_n (pc := 0) hC dX1_of_0 rfl ?_
  refine st_iload_n (pc := 1) hC dX1_of_1 rfl ?_
  obtain ⟨v1, hq, h⟩ := h
  refine st_invS (As := [iV x1, iV x2]) (v := [iV v1]) (S := []) (pc := 2) hC dX1_of_2 cl_1_27 rfl rfl (Nat.le_of_ble_eq_true rfl) hq ?_
  refine st_if_eq (tg := 21) (pc := 5) hC dX1_of_5 (by decide) (ite_im h (fun h => ?_) (fun h => ?_))
  · refine st_lconst1 (pc := 21) hC dX1_of_21 ?_
    exact st_lreturn (pc := 22) hC dX1_of_22 h
  · refine st_aload_n (pc := 8) hC dX1_of_8 rfl (by decide) (by decide) ?_
    refine st_getf (ci := 1) (f := 0) (v := rV 2000025 (t0 + 1)) (pc := 9) hC dX1_of_9 fl_1_9 rfl rfl ?_
    refine st_iload_n (pc := 12) hC dX1_of_12 rfl ?_
    refine st_iconst (pc := 13) hC dX1_of_13 (by decide) ?_
    refine st_imul (pc := 14) hC dX1_of_14 ?_
    refine st_iload_n (pc := 15) hC dX1_of_15 rfl ?_
    refine st_iadd (pc := 16) hC dX1_of_16 ?_
    obtain ⟨hb, h⟩ := h
    refine st_lald (n := 25) (pc := 17) hC dX1_of_17 (by decide) hb ?_
    refine st_goto (tg := 22) (pc := 18) hC dX1_of_18 (by decide) ?_
    exact st_lreturn (pc := 22) hC dX1_of_22 h
theorem bX1_set_0 {C : Nat → List Vv → Sg → Rs → Sg → Prop} {X : Nat → List Vv → List Vv → Sg → Prop} {Xr : List Vv → Sg → Prop} {Xt : Nat → Sg → Prop} (hC : Clo C 1 cX1_set none X Xr Xt) {x1 x2 x3 : Int} {t0 : Nat} {σ : Sg} (h : ∃ v1 : Int, C MX1_isPair [iV x1, iV x2] σ (.inl [iV v1]) σ ∧ (if v1 = 0 then (Xr [] σ) else ((0 ≤ (w32 ((w32 (x1 * 5)) + x2)) ∧ (w32 ((w32 (x1 * 5)) + x2)) < 25) ∧ (Xr [] (upS σ (t0 + 1) ((w32 ((w32 (x1 * 5)) + x2))).toNat x3))))) : X 0 [rV 11 t0, iV x1, iV x2, lV x3, uV] [] σ := by
  refine st_iload_n (pc := 0) hC dX1_set_0 rfl ?_
  refine st_iload_n (pc := 1) hC dX1_set_1 rfl ?_
  obtain ⟨v1, hq, h⟩ := h
  refine st_invS (As := [iV x1, iV x2]) (v := [iV v1]) (S := []) (pc := 2) hC dX1_set_2 cl_1_27 rfl rfl (Nat.le_of_ble_eq_true rfl) hq ?_
  refine st_if_eq (tg := 19) (pc := 5) hC dX1_set_5 (by decide) (ite_im h (fun h => ?_) (fun h => ?_))
  · exact st_return (pc := 19) hC dX1_set_19 h
  · refine st_aload_n (pc := 8) hC dX1_set_8 rfl (by decide) (by decide) ?_
    refine st_getf (ci := 1) (f := 0) (v := rV 2000025 (t0 + 1)) (pc := 9) hC dX1_set_9 fl_1_9 rfl rfl ?_
    refine st_iload_n (pc := 12) hC dX1_set_12 rfl ?_
    refine st_iconst (pc := 13) hC dX1_set_13 (by decide) ?_
    refine st_imul (pc := 14) hC dX1_set_14 ?_
    refine st_iload_n (pc := 15) hC dX1_set_15 rfl ?_
    refine st_iadd (pc := 16) hC dX1_set_16 ?_
    refine st_lload_n (pc := 17) hC dX1_set_17 rfl ?_
    obtain ⟨hb, h⟩ := h
    refine st_last (n := 25) (pc := 18) hC dX1_set_18 (by decide) hb ?_
    exact st_return (pc := 19) hC dX1_set_19 h
theorem bX1_aboveOne_0 {C : Nat → List Vv → Sg → Rs → Sg → Prop} {X : Nat → List Vv → List Vv → Sg → Prop} {Xr : List Vv → Sg → Prop} {Xt : Nat → Sg → Prop} (hC : Clo C 1 cX1_aboveOne (some .int) X Xr Xt) {t0 : Nat} {σ : Sg} (h : X 4 [rV 11 t0, iV 0, iV 0] [] σ) : X 0 [rV 11 t0, uV, uV] [] σ := by
  refine st_iconst (pc := 0) hC dX1_aboveOne_0 (by decide) ?_
  refine st_istore_n (L2 := [rV 11 t0, iV 0, uV]) (pc := 1) hC dX1_aboveOne_1 (Nat.le_of_ble_eq_true rfl) rfl ?_
  refine st_iconst (pc := 2) hC dX1_aboveOne_2 (by decide) ?_
  refine st_istore_n (L2 := [rV 11 t0, iV 0, iV 0]) (pc := 3) hC dX1_aboveOne_3 (Nat.le_of_ble_eq_true rfl) rfl ?_
  exact h
theorem bX1_aboveOne_4 {C : Nat → List Vv → Sg → Rs → Sg → Prop} {X : Nat → List Vv → List Vv → Sg → Prop} {Xr : List Vv → Sg → Prop} {Xt : Nat → Sg → Prop} (hC : Clo C 1 cX1_aboveOne (some .int) X Xr Xt) {x1 x2 : Int} {t0 : Nat} {σ : Sg} (h : if x2 < 25 then ((0 ≤ x2 ∧ x2 < 25) ∧ (if (1 : Int) < (σ (t0 + 1) (x2).toNat) then (X 4 [rV 11 t0, iV (w32 (x1 + 1)), iV (w32 (x2 + 1))] [] σ) else (X 4 [rV 11 t0, iV x1, iV (w32 (x2 + 1))] [] σ))) else (Xr [iV x1] σ)) : X 4 [rV 11 t0, iV x1, iV x2] [] σ := by
  refine st_iload_n (pc := 4) hC dX1_aboveOne_4 rfl ?_
  refine st_aload_n (pc := 5) hC dX1_aboveOne_5 rfl (by decide) (by decide) ?_
  refine st_getf (ci := 1) (f := 0) (v := rV 2000025 (t0 + 1)) (pc := 6) hC dX1_aboveOne_6 fl_1_9 rfl rfl ?_
  refine st_alen (n := 25) (pc := 9) hC dX1_aboveOne_9 (by decide) ?_
  refine st_icmp_ge (tg := 33) (pc := 10) hC dX1_aboveOne_10 (by decide) (ite_im h (fun h => ?_) (fun h => ?_))
  · refine st_aload_n (pc := 13) hC dX1_aboveOne_13 rfl (by decide) (by decide) ?_
    refine st_getf (ci := 1) (f := 0) (v := rV 2000025 (t0 + 1)) (pc := 14) hC dX1_aboveOne_14 fl_1_9 rfl rfl ?_
    refine st_iload_n (pc := 17) hC dX1_aboveOne_17 rfl ?_
    obtain ⟨hb, h⟩ := h
    refine st_lald (n := 25) (pc := 18) hC dX1_aboveOne_18 (by decide) hb ?_
    refine st_lconst1 (pc := 19) hC dX1_aboveOne_19 ?_
    refine st_lcmp_le (tg := 27) (pc := 20) hC dX1_aboveOne_20 dX1_aboveOne_21 (by decide) (ite_im h (fun h => ?_) (fun h => ?_))
    · refine st_iinc (L2 := [rV 11 t0, iV (w32 (x1 + 1)), iV x2]) (pc := 24) hC dX1_aboveOne_24 rfl (Nat.le_of_ble_eq_true rfl) rfl ?_
      refine st_iinc (L2 := [rV 11 t0, iV (w32 (x1 + 1)), iV (w32 (x2 + 1))]) (pc := 27) hC dX1_aboveOne_27 rfl (Nat.le_of_ble_eq_true rfl) rfl ?_
      refine st_goto (tg := 4) (pc := 30) hC dX1_aboveOne_30 (by decide) ?_
      exact h
    · refine st_iinc (L2 := [rV 11 t0, iV x1, iV (w32 (x2 + 1))]) (pc := 27) hC dX1_aboveOne_27 rfl (Nat.le_of_ble_eq_true rfl) rfl ?_
      refine st_goto (tg := 4) (pc := 30) hC dX1_aboveOne_30 (by decide) ?_
      exact h
  · refine st_iload_n (pc := 33) hC dX1_aboveOne_33 rfl ?_
    exact st_ireturn (pc := 34) hC dX1_aboveOne_34 trivial h
theorem bX1_strikeAll_0 {C : Nat → List Vv → Sg → Rs → Sg → Prop} {X : Nat → List Vv → List Vv → Sg → Prop} {Xr : List Vv → Sg → Prop} {Xt : Nat → Sg → Prop} (hC : Clo C 1 cX1_strikeAll (some .int) X Xr Xt) {t0 : Nat} {σ : Sg} (h : X 4 [rV 11 t0, iV 0, iV 0] [] σ) : X 0 [rV 11 t0, uV, uV] [] σ := by
  refine st_iconst (pc := 0) hC dX1_strikeAll_0 (by decide) ?_
  refine st_istore_n (L2 := [rV 11 t0, iV 0, uV]) (pc := 1) hC dX1_strikeAll_1 (Nat.le_of_ble_eq_true rfl) rfl ?_
  refine st_iconst (pc := 2) hC dX1_strikeAll_2 (by decide) ?_
  refine st_istore_n (L2 := [rV 11 t0, iV 0, iV 0]) (pc := 3) hC dX1_strikeAll_3 (Nat.le_of_ble_eq_true rfl) rfl ?_
  exact h
theorem bX1_strikeAll_4 {C : Nat → List Vv → Sg → Rs → Sg → Prop} {X : Nat → List Vv → List Vv → Sg → Prop} {Xr : List Vv → Sg → Prop} {Xt : Nat → Sg → Prop} (hC : Clo C 1 cX1_strikeAll (some .int) X Xr Xt) {x1 x2 : Int} {t0 : Nat} {σ : Sg} (h : if x2 < 10000 then (∃ v1 : Int, ∃ σ1 : Sg, C MX1_strikeTwo [rV 11 t0] σ (.inl [iV v1]) σ1 ∧ (if v1 = 0 then (∃ v2 : Int, ∃ σ2 : Sg, C MX1_strikeThree [rV 11 t0] σ1 (.inl [iV v2]) σ2 ∧ (if v2 = 0 then (Xr [iV x1] σ2) else (X 4 [rV 11 t0, iV (w32 (x1 + 1)), iV (w32 (x2 + 1))] [] σ2))) else (X 4 [rV 11 t0, iV (w32 (x1 + 1)), iV (w32 (x2 + 1))] [] σ1))) else (Xr [iV x1] σ)) : X 4 [rV 11 t0, iV x1, iV x2] [] σ := by
  refine st_iload_n (pc := 4) hC dX1_strikeAll_4 rfl ?_
  refine st_sipush (pc := 5) hC dX1_strikeAll_5 (by decide) ?_
  refine st_icmp_ge (tg := 34) (pc := 8) hC dX1_strikeAll_8 (by decide) (ite_im h (fun h => ?_) (fun h => ?_))
  · refine st_aload_n (pc := 11) hC dX1_strikeAll_11 rfl (by decide) (by decide) ?_
    obtain ⟨v1, σ1, hq, h⟩ := h
    refine st_invV (As := []) (v := [iV v1]) (S := []) (pc := 12) hC dX1_strikeAll_12 cl_1_31 rfl rfl (Nat.le_of_ble_eq_true rfl) cr_X1_strikeTwo hq ?_
    refine st_if_ne (tg := 25) (pc := 15) hC dX1_strikeAll_15 (by decide) (ite_im h (fun h => ?_) (fun h => ?_))
    · refine st_aload_n (pc := 18) hC dX1_strikeAll_18 rfl (by decide) (by decide) ?_
      obtain ⟨v2, σ2, hq, h⟩ := h
      refine st_invV (As := []) (v := [iV v2]) (S := []) (pc := 19) hC dX1_strikeAll_19 cl_1_35 rfl rfl (Nat.le_of_ble_eq_true rfl) cr_X1_strikeThree hq ?_
      refine st_if_eq (tg := 34) (pc := 22) hC dX1_strikeAll_22 (by decide) (ite_im h (fun h => ?_) (fun h => ?_))
      · refine st_iload_n (pc := 34) hC dX1_strikeAll_34 rfl ?_
        exact st_ireturn (pc := 35) hC dX1_strikeAll_35 trivial h
      · refine st_iinc (L2 := [rV 11 t0, iV (w32 (x1 + 1)), iV x2]) (pc := 25) hC dX1_strikeAll_25 rfl (Nat.le_of_ble_eq_true rfl) rfl ?_
        refine st_iinc (L2 := [rV 11 t0, iV (w32 (x1 + 1)), iV (w32 (x2 + 1))]) (pc := 28) hC dX1_strikeAll_28 rfl (Nat.le_of_ble_eq_true rfl) rfl ?_
        refine st_goto (tg := 4) (pc := 31) hC dX1_strikeAll_31 (by decide) ?_
        exact h
    · refine st_iinc (L2 := [rV 11 t0, iV (w32 (x1 + 1)), iV x2]) (pc := 25) hC dX1_strikeAll_25 rfl (Nat.le_of_ble_eq_true rfl) rfl ?_
      refine st_iinc (L2 := [rV 11 t0, iV (w32 (x1 + 1)), iV (w32 (x2 + 1))]) (pc := 28) hC dX1_strikeAll_28 rfl (Nat.le_of_ble_eq_true rfl) rfl ?_
      refine st_goto (tg := 4) (pc := 31) hC dX1_strikeAll_31 (by decide) ?_
      exact h
  · refine st_iload_n (pc := 34) hC dX1_strikeAll_34 rfl ?_
    exact st_ireturn (pc := 35) hC dX1_strikeAll_35 trivial h
theorem bX1_strikeTwo_0 {C : Nat → List Vv → Sg → Rs → Sg → Prop} {X : Nat → List Vv → List Vv → Sg → Prop} {Xr : List Vv → Sg → Prop} {Xt : Nat → Sg → Prop} (hC : Clo C 1 cX1_strikeTwo (some .boolean) X Xr Xt) {t0 : Nat} {σ : Sg} (h : X 2 [rV 11 t0, iV 0, uV, uV, uV] [] σ) : X 0 [rV 11 t0, uV, uV, uV, uV] [] σ := by
  refine st_iconst (pc := 0) hC dX1_strikeTwo_0 (by decide) ?_
  refine st_istore_n (L2 := [rV 11 t0, iV 0, uV, uV, uV]) (pc := 1) hC dX1_strikeTwo_1 (Nat.le_of_ble_eq_true rfl) rfl ?_
  exact h
theorem bX1_strikeTwo_2 {C : Nat → List Vv → Sg → Rs → Sg → Prop} {X : Nat → List Vv → List Vv → Sg → Prop} {Xr : List Vv → Sg → Prop} {Xt : Nat → Sg → Prop} (hC : Clo C 1 cX1_strikeTwo (some .boolean) X Xr Xt) {x1 : Int} {t0 : Nat} {σ : Sg} (h : if x1 < 5 then (X 11 [rV 11 t0, iV x1, iV (w32 (x1 + 1)), uV, uV] [] σ) else (Xr [iV 0] σ)) : X 2 [rV 11 t0, iV x1, uV, uV, uV] [] σ := by
  refine st_iload_n (pc := 2) hC dX1_strikeTwo_2 rfl ?_
  refine st_iconst (pc := 3) hC dX1_strikeTwo_3 (by decide) ?_
  refine st_icmp_ge (tg := 66) (pc := 4) hC dX1_strikeTwo_4 (by decide) (ite_im h (fun h => ?_) (fun h => ?_))
  · refine st_iload_n (pc := 7) hC dX1_strikeTwo_7 rfl ?_
    refine st_iconst (pc := 8) hC dX1_strikeTwo_8 (by decide) ?_
    refine st_iadd (pc := 9) hC dX1_strikeTwo_9 ?_
    refine st_istore_n (L2 := [rV 11 t0, iV x1, iV (w32 (x1 + 1)), uV, uV]) (pc := 10) hC dX1_strikeTwo_10 (Nat.le_of_ble_eq_true rfl) rfl ?_
    exact h
  · refine st_iconst (pc := 66) hC dX1_strikeTwo_66 (by decide) ?_
    exact st_ireturn (pc := 67) hC dX1_strikeTwo_67 (Or.inl rfl) h
theorem bX1_strikeTwo_11 {C : Nat → List Vv → Sg → Rs → Sg → Prop} {X : Nat → List Vv → List Vv → Sg → Prop} {Xr : List Vv → Sg → Prop} {Xt : Nat → Sg → Prop} (hC : Clo C 1 cX1_strikeTwo (some .boolean) X Xr Xt) {x1 x2 : Int} {t0 : Nat} {σ : Sg} (h : if x2 < 5 then (∃ v1 : Int, C MX1_of [rV 11 t0, iV x1, iV x2] σ (.inl [lV v1]) σ ∧ (∃ v2 : Int, C MX1_of [rV 11 t0, iV x2, iV x1] σ (.inl [lV v2]) σ ∧ (∃ v3 : Int, C MX3_commonFactor [lV v1, lV v2] σ (.inl [lV v3]) σ ∧ (if (1 : Int) < v3 then (∃ σ4 : Sg, C MX1_divide [rV 11 t0, iV x1, iV x2, lV v3] σ (.inl []) σ4 ∧ (∃ σ5 : Sg, C MX1_divide [rV 11 t0, iV x2, iV x1, lV v3] σ4 (.inl []) σ5 ∧ (Xr [iV 1] σ5))) else (X 11 [rV 11 t0, iV x1, iV (w32 (x2 + 1)), uV, uV] [] σ))))) else (X 2 [rV 11 t0, iV (w32 (x1 + 1)), uV, uV, uV] [] σ)) : X 11 [rV 11 t0, iV x1, iV x2, uV, uV] [] σ := by
  refine st_iload_n (pc := 11) hC dX1_strikeTwo_11 rfl ?_
  refine st_iconst (pc := 12) hC dX1_strikeTwo_12 (by decide) ?_
  refine st_icmp_ge (tg := 60) (pc := 13) hC dX1_strikeTwo_13 (by decide) (ite_im h (fun h => ?_) (fun h => ?_))
  · refine st_aload_n (pc := 16) hC dX1_strikeTwo_16 rfl (by decide) (by decide) ?_
    refine st_iload_n (pc := 17) hC dX1_strikeTwo_17 rfl ?_
    refine st_iload_n (pc := 18) hC dX1_strikeTwo_18 rfl ?_
    obtain ⟨v1, hq, h⟩ := h
    refine st_invV (As := [iV x1, iV x2]) (v := [lV v1]) (S := []) (pc := 19) hC dX1_strikeTwo_19 cl_1_38 rfl rfl (Nat.le_of_ble_eq_true rfl) cr_X1_of hq ?_
    refine st_aload_n (pc := 22) hC dX1_strikeTwo_22 rfl (by decide) (by decide) ?_
    refine st_iload_n (pc := 23) hC dX1_strikeTwo_23 rfl ?_
    refine st_iload_n (pc := 24) hC dX1_strikeTwo_24 rfl ?_
    obtain ⟨v2, hq, h⟩ := h
    refine st_invV (As := [iV x2, iV x1]) (v := [lV v2]) (S := [lV v1]) (pc := 25) hC dX1_strikeTwo_25 cl_1_38 rfl rfl (Nat.le_of_ble_eq_true rfl) cr_X1_of hq ?_
    obtain ⟨v3, hq, h⟩ := h
    refine st_invS (As := [lV v1, lV v2]) (v := [lV v3]) (S := []) (pc := 28) hC dX1_strikeTwo_28 cl_1_42 rfl rfl (Nat.le_of_ble_eq_true rfl) hq ?_
    refine st_lstore_n (L2 := [rV 11 t0, iV x1, iV x2, lV v3, uV]) (pc := 31) hC dX1_strikeTwo_31 (Nat.le_of_ble_eq_true rfl) rfl ?_
    refine st_lload_n (pc := 32) hC dX1_strikeTwo_32 rfl ?_
    refine st_lconst1 (pc := 33) hC dX1_strikeTwo_33 ?_
    refine st_lcmp_le (tg := 54) (pc := 34) hC dX1_strikeTwo_34 dX1_strikeTwo_35 (by decide) (ite_im h (fun h => ?_) (fun h => ?_))
    · refine st_aload_n (pc := 38) hC dX1_strikeTwo_38 rfl (by decide) (by decide) ?_
      refine st_iload_n (pc := 39) hC dX1_strikeTwo_39 rfl ?_
      refine st_iload_n (pc := 40) hC dX1_strikeTwo_40 rfl ?_
      refine st_lload_n (pc := 41) hC dX1_strikeTwo_41 rfl ?_
      obtain ⟨σ4, hq, h⟩ := h
      refine st_invV (As := [iV x1, iV x2, lV v3]) (v := []) (S := []) (pc := 42) hC dX1_strikeTwo_42 cl_1_48 rfl rfl (Nat.le_of_ble_eq_true rfl) cr_X1_divide hq ?_
      refine st_aload_n (pc := 45) hC dX1_strikeTwo_45 rfl (by decide) (by decide) ?_
      refine st_iload_n (pc := 46) hC dX1_strikeTwo_46 rfl ?_
      refine st_iload_n (pc := 47) hC dX1_strikeTwo_47 rfl ?_
      refine st_lload_n (pc := 48) hC dX1_strikeTwo_48 rfl ?_
      obtain ⟨σ5, hq, h⟩ := h
      refine st_invV (As := [iV x2, iV x1, lV v3]) (v := []) (S := []) (pc := 49) hC dX1_strikeTwo_49 cl_1_48 rfl rfl (Nat.le_of_ble_eq_true rfl) cr_X1_divide hq ?_
      refine st_iconst (pc := 52) hC dX1_strikeTwo_52 (by decide) ?_
      exact st_ireturn (pc := 53) hC dX1_strikeTwo_53 (Or.inr rfl) h
    · refine st_iinc (L2 := [rV 11 t0, iV x1, iV (w32 (x2 + 1)), lV v3, uV]) (pc := 54) hC dX1_strikeTwo_54 rfl (Nat.le_of_ble_eq_true rfl) rfl ?_
      refine st_goto (tg := 11) (pc := 57) hC dX1_strikeTwo_57 (by decide) ?_
      exact st_fg (L2 := [rV 11 t0, iV x1, iV (w32 (x2 + 1)), uV, uV]) hC ⟨Or.inl rfl, Or.inl rfl, Or.inl rfl, Or.inr rfl, Or.inl rfl, trivial⟩ h
  · refine st_iinc (L2 := [rV 11 t0, iV (w32 (x1 + 1)), iV x2, uV, uV]) (pc := 60) hC dX1_strikeTwo_60 rfl (Nat.le_of_ble_eq_true rfl) rfl ?_
    refine st_goto (tg := 2) (pc := 63) hC dX1_strikeTwo_63 (by decide) ?_
    exact st_fg (L2 := [rV 11 t0, iV (w32 (x1 + 1)), uV, uV, uV]) hC ⟨Or.inl rfl, Or.inl rfl, Or.inr rfl, Or.inl rfl, Or.inl rfl, trivial⟩ h
theorem bX1_strikeThree_0 {C : Nat → List Vv → Sg → Rs → Sg → Prop} {X : Nat → List Vv → List Vv → Sg → Prop} {Xr : List Vv → Sg → Prop} {Xt : Nat → Sg → Prop} (hC : Clo C 1 cX1_strikeThree (some .boolean) X Xr Xt) {t0 : Nat} {σ : Sg} (h : X 2 [rV 11 t0, iV 0, uV, uV] [] σ) : X 0 [rV 11 t0, uV, uV, uV] [] σ := by
  refine st_iconst (pc := 0) hC dX1_strikeThree_0 (by decide) ?_
  refine st_istore_n (L2 := [rV 11 t0, iV 0, uV, uV]) (pc := 1) hC dX1_strikeThree_1 (Nat.le_of_ble_eq_true rfl) rfl ?_
  exact h
theorem bX1_strikeThree_2 {C : Nat → List Vv → Sg → Rs → Sg → Prop} {X : Nat → List Vv → List Vv → Sg → Prop} {Xr : List Vv → Sg → Prop} {Xt : Nat → Sg → Prop} (hC : Clo C 1 cX1_strikeThree (some .boolean) X Xr Xt) {x1 : Int} {t0 : Nat} {σ : Sg} (h : if x1 < 5 then (X 11 [rV 11 t0, iV x1, iV (w32 (x1 + 1)), uV] [] σ) else (Xr [iV 0] σ)) : X 2 [rV 11 t0, iV x1, uV, uV] [] σ := by
  refine st_iload_n (pc := 2) hC dX1_strikeThree_2 rfl ?_
  refine st_iconst (pc := 3) hC dX1_strikeThree_3 (by decide) ?_
  refine st_icmp_ge (tg := 60) (pc := 4) hC dX1_strikeThree_4 (by decide) (ite_im h (fun h => ?_) (fun h => ?_))
  · refine st_iload_n (pc := 7) hC dX1_strikeThree_7 rfl ?_
    refine st_iconst (pc := 8) hC dX1_strikeThree_8 (by decide) ?_
    refine st_iadd (pc := 9) hC dX1_strikeThree_9 ?_
    refine st_istore_n (L2 := [rV 11 t0, iV x1, iV (w32 (x1 + 1)), uV]) (pc := 10) hC dX1_strikeThree_10 (Nat.le_of_ble_eq_true rfl) rfl ?_
    exact h
  · refine st_iconst (pc := 60) hC dX1_strikeThree_60 (by decide) ?_
    exact st_ireturn (pc := 61) hC dX1_strikeThree_61 (Or.inl rfl) h
theorem bX1_strikeThree_11 {C : Nat → List Vv → Sg → Rs → Sg → Prop} {X : Nat → List Vv → List Vv → Sg → Prop} {Xr : List Vv → Sg → Prop} {Xt : Nat → Sg → Prop} (hC : Clo C 1 cX1_strikeThree (some .boolean) X Xr Xt) {x1 x2 : Int} {t0 : Nat} {σ : Sg} (h : if x2 < 5 then (X 20 [rV 11 t0, iV x1, iV x2, iV (w32 (x1 + 1))] [] σ) else (X 2 [rV 11 t0, iV (w32 (x1 + 1)), uV, uV] [] σ)) : X 11 [rV 11 t0, iV x1, iV x2, uV] [] σ := by
  refine st_iload_n (pc := 11) hC dX1_strikeThree_11 rfl ?_
  refine st_iconst (pc := 12) hC dX1_strikeThree_12 (by decide) ?_
  refine st_icmp_ge (tg := 54) (pc := 13) hC dX1_strikeThree_13 (by decide) (ite_im h (fun h => ?_) (fun h => ?_))
  · refine st_iload_n (pc := 16) hC dX1_strikeThree_16 rfl ?_
    refine st_iconst (pc := 17) hC dX1_strikeThree_17 (by decide) ?_
    refine st_iadd (pc := 18) hC dX1_strikeThree_18 ?_
    refine st_istore_n (L2 := [rV 11 t0, iV x1, iV x2, iV (w32 (x1 + 1))]) (pc := 19) hC dX1_strikeThree_19 (Nat.le_of_ble_eq_true rfl) rfl ?_
    exact h
  · refine st_iinc (L2 := [rV 11 t0, iV (w32 (x1 + 1)), iV x2, uV]) (pc := 54) hC dX1_strikeThree_54 rfl (Nat.le_of_ble_eq_true rfl) rfl ?_
    refine st_goto (tg := 2) (pc := 57) hC dX1_strikeThree_57 (by decide) ?_
    exact st_fg (L2 := [rV 11 t0, iV (w32 (x1 + 1)), uV, uV]) hC ⟨Or.inl rfl, Or.inl rfl, Or.inr rfl, Or.inl rfl, trivial⟩ h
theorem bX1_strikeThree_20 {C : Nat → List Vv → Sg → Rs → Sg → Prop} {X : Nat → List Vv → List Vv → Sg → Prop} {Xr : List Vv → Sg → Prop} {Xt : Nat → Sg → Prop} (hC : Clo C 1 cX1_strikeThree (some .boolean) X Xr Xt) {x1 x2 x3 : Int} {t0 : Nat} {σ : Sg} (h : if x3 < 5 then (if x3 = x2 then (X 20 [rV 11 t0, iV x1, iV x2, iV (w32 (x3 + 1))] [] σ) else (∃ v1 : Int, ∃ σ1 : Sg, C MX1_strikeRing [rV 11 t0, iV x1, iV x2, iV x3] σ (.inl [iV v1]) σ1 ∧ (if v1 = 0 then (X 20 [rV 11 t0, iV x1, iV x2, iV (w32 (x3 + 1))] [] σ1) else (Xr [iV 1] σ1)))) else (X 11 [rV 11 t0, iV x1, iV (w32 (x2 + 1)), uV] [] σ)) : X 20 [rV 11 t0, iV x1, iV x2, iV x3] [] σ := by
  refine st_iload_n (pc := 20) hC dX1_strikeThree_20 rfl ?_
  refine st_iconst (pc := 21) hC dX1_strikeThree_21 (by decide) ?_
  refine st_icmp_ge (tg := 48) (pc := 22) hC dX1_strikeThree_22 (by decide) (ite_im h (fun h => ?_) (fun h => ?_))
  · refine st_iload_n (pc := 25) hC dX1_strikeThree_25 rfl ?_
    refine st_iload_n (pc := 26) hC dX1_strikeThree_26 rfl ?_
    refine st_icmp_eq (tg := 42) (pc := 27) hC dX1_strikeThree_27 (by decide) (ite_im h (fun h => ?_) (fun h => ?_))
    · refine st_iinc (L2 := [rV 11 t0, iV x1, iV x2, iV (w32 (x3 + 1))]) (pc := 42) hC dX1_strikeThree_42 rfl (Nat.le_of_ble_eq_true rfl) rfl ?_
      refine st_goto (tg := 20) (pc := 45) hC dX1_strikeThree_45 (by decide) ?_
      exact h
    · refine st_aload_n (pc := 30) hC dX1_strikeThree_30 rfl (by decide) (by decide) ?_
      refine st_iload_n (pc := 31) hC dX1_strikeThree_31 rfl ?_
      refine st_iload_n (pc := 32) hC dX1_strikeThree_32 rfl ?_
      refine st_iload_n (pc := 33) hC dX1_strikeThree_33 rfl ?_
      obtain ⟨v1, σ1, hq, h⟩ := h
      refine st_invV (As := [iV x1, iV x2, iV x3]) (v := [iV v1]) (S := []) (pc := 34) hC dX1_strikeThree_34 cl_1_52 rfl rfl (Nat.le_of_ble_eq_true rfl) cr_X1_strikeRing hq ?_
      refine st_if_eq (tg := 42) (pc := 37) hC dX1_strikeThree_37 (by decide) (ite_im h (fun h => ?_) (fun h => ?_))
      · refine st_iinc (L2 := [rV 11 t0, iV x1, iV x2, iV (w32 (x3 + 1))]) (pc := 42) hC dX1_strikeThree_42 rfl (Nat.le_of_ble_eq_true rfl) rfl ?_
        refine st_goto (tg := 20) (pc := 45) hC dX1_strikeThree_45 (by decide) ?_
        exact h
      · refine st_iconst (pc := 40) hC dX1_strikeThree_40 (by decide) ?_
        exact st_ireturn (pc := 41) hC dX1_strikeThree_41 (Or.inr rfl) h
  · refine st_iinc (L2 := [rV 11 t0, iV x1, iV (w32 (x2 + 1)), iV x3]) (pc := 48) hC dX1_strikeThree_48 rfl (Nat.le_of_ble_eq_true rfl) rfl ?_
    refine st_goto (tg := 11) (pc := 51) hC dX1_strikeThree_51 (by decide) ?_
    exact st_fg (L2 := [rV 11 t0, iV x1, iV (w32 (x2 + 1)), uV]) hC ⟨Or.inl rfl, Or.inl rfl, Or.inl rfl, Or.inr rfl, trivial⟩ h
theorem bX1_strikeRing_0 {C : Nat → List Vv → Sg → Rs → Sg → Prop} {X : Nat → List Vv → List Vv → Sg → Prop} {Xr : List Vv → Sg → Prop} {Xt : Nat → Sg → Prop} (hC : Clo C 1 cX1_strikeRing (some .boolean) X Xr Xt) {x1 x2 x3 : Int} {t0 : Nat} {σ : Sg} (h : ∃ v1 : Int, C MX1_of [rV 11 t0, iV x1, iV x2] σ (.inl [lV v1]) σ ∧ (∃ v2 : Int, C MX1_of [rV 11 t0, iV x2, iV x3] σ (.inl [lV v2]) σ ∧ (∃ v3 : Int, C MX3_commonFactor [lV v1, lV v2] σ (.inl [lV v3]) σ ∧ (∃ v4 : Int, C MX1_of [rV 11 t0, iV x3, iV x1] σ (.inl [lV v4]) σ ∧ (∃ v5 : Int, C MX3_commonFactor [lV v3, lV v4] σ (.inl [lV v5]) σ ∧ (if v5 < 2 then (Xr [iV 0] σ) else (∃ σ6 : Sg, C MX1_divide [rV 11 t0, iV x1, iV x2, lV v5] σ (.inl []) σ6 ∧ (∃ σ7 : Sg, C MX1_divide [rV 11 t0, iV x2, iV x3, lV v5] σ6 (.inl []) σ7 ∧ (∃ σ8 : Sg, C MX1_divide [rV 11 t0, iV x3, iV x1, lV v5] σ7 (.inl []) σ8 ∧ (Xr [iV 1] σ8)))))))))) : X 0 [rV 11 t0, iV x1, iV x2, iV x3, uV, uV] [] σ := by
  refine st_aload_n (pc := 0) hC dX1_strikeRing_0 rfl (by decide) (by decide) ?_
  refine st_iload_n (pc := 1) hC dX1_strikeRing_1 rfl ?_
  refine st_iload_n (pc := 2) hC dX1_strikeRing_2 rfl ?_
  obtain ⟨v1, hq, h⟩ := h
  refine st_invV (As := [iV x1, iV x2]) (v := [lV v1]) (S := []) (pc := 3) hC dX1_strikeRing_3 cl_1_38 rfl rfl (Nat.le_of_ble_eq_true rfl) cr_X1_of hq ?_
  refine st_aload_n (pc := 6) hC dX1_strikeRing_6 rfl (by decide) (by decide) ?_
  refine st_iload_n (pc := 7) hC dX1_strikeRing_7 rfl ?_
  refine st_iload_n (pc := 8) hC dX1_strikeRing_8 rfl ?_
  obtain ⟨v2, hq, h⟩ := h
  refine st_invV (As := [iV x2, iV x3]) (v := [lV v2]) (S := [lV v1]) (pc := 9) hC dX1_strikeRing_9 cl_1_38 rfl rfl (Nat.le_of_ble_eq_true rfl) cr_X1_of hq ?_
  obtain ⟨v3, hq, h⟩ := h
  refine st_invS (As := [lV v1, lV v2]) (v := [lV v3]) (S := []) (pc := 12) hC dX1_strikeRing_12 cl_1_42 rfl rfl (Nat.le_of_ble_eq_true rfl) hq ?_
  refine st_aload_n (pc := 15) hC dX1_strikeRing_15 rfl (by decide) (by decide) ?_
  refine st_iload_n (pc := 16) hC dX1_strikeRing_16 rfl ?_
  refine st_iload_n (pc := 17) hC dX1_strikeRing_17 rfl ?_
  obtain ⟨v4, hq, h⟩ := h
  refine st_invV (As := [iV x3, iV x1]) (v := [lV v4]) (S := [lV v3]) (pc := 18) hC dX1_strikeRing_18 cl_1_38 rfl rfl (Nat.le_of_ble_eq_true rfl) cr_X1_of hq ?_
  obtain ⟨v5, hq, h⟩ := h
  refine st_invS (As := [lV v3, lV v4]) (v := [lV v5]) (S := []) (pc := 21) hC dX1_strikeRing_21 cl_1_42 rfl rfl (Nat.le_of_ble_eq_true rfl) hq ?_
  refine st_lstore (L2 := [rV 11 t0, iV x1, iV x2, iV x3, lV v5, uV]) (pc := 24) hC dX1_strikeRing_24 (Nat.le_of_ble_eq_true rfl) rfl ?_
  refine st_lload (pc := 26) hC dX1_strikeRing_26 rfl ?_
  refine st_ldc2 (pc := 28) hC dX1_strikeRing_28 rfl ?_
  refine st_lcmp_ge (tg := 37) (pc := 31) hC dX1_strikeRing_31 dX1_strikeRing_32 (by decide) (ite_im h (fun h => ?_) (fun h => ?_))
  · refine st_iconst (pc := 35) hC dX1_strikeRing_35 (by decide) ?_
    exact st_ireturn (pc := 36) hC dX1_strikeRing_36 (Or.inl rfl) h
  · refine st_aload_n (pc := 37) hC dX1_strikeRing_37 rfl (by decide) (by decide) ?_
    refine st_iload_n (pc := 38) hC dX1_strikeRing_38 rfl ?_
    refine st_iload_n (pc := 39) hC dX1_strikeRing_39 rfl ?_
    refine st_lload (pc := 40) hC dX1_strikeRing_40 rfl ?_
    obtain ⟨σ6, hq, h⟩ := h
    refine st_invV (As := [iV x1, iV x2, lV v5]) (v := []) (S := []) (pc := 42) hC dX1_strikeRing_42 cl_1_48 rfl rfl (Nat.le_of_ble_eq_true rfl) cr_X1_divide hq ?_
    refine st_aload_n (pc := 45) hC dX1_strikeRing_45 rfl (by decide) (by decide) ?_
    refine st_iload_n (pc := 46) hC dX1_strikeRing_46 rfl ?_
    refine st_iload_n (pc := 47) hC dX1_strikeRing_47 rfl ?_
    refine st_lload (pc := 48) hC dX1_strikeRing_48 rfl ?_
    obtain ⟨σ7, hq, h⟩ := h
    refine st_invV (As := [iV x2, iV x3, lV v5]) (v := []) (S := []) (pc := 50) hC dX1_strikeRing_50 cl_1_48 rfl rfl (Nat.le_of_ble_eq_true rfl) cr_X1_divide hq ?_
    refine st_aload_n (pc := 53) hC dX1_strikeRing_53 rfl (by decide) (by decide) ?_
    refine st_iload_n (pc := 54) hC dX1_strikeRing_54 rfl ?_
    refine st_iload_n (pc := 55) hC dX1_strikeRing_55 rfl ?_
    refine st_lload (pc := 56) hC dX1_strikeRing_56 rfl ?_
    obtain ⟨σ8, hq, h⟩ := h
    refine st_invV (As := [iV x3, iV x1, lV v5]) (v := []) (S := []) (pc := 58) hC dX1_strikeRing_58 cl_1_48 rfl rfl (Nat.le_of_ble_eq_true rfl) cr_X1_divide hq ?_
    refine st_iconst (pc := 61) hC dX1_strikeRing_61 (by decide) ?_
    exact st_ireturn (pc := 62) hC dX1_strikeRing_62 (Or.inr rfl) h
theorem bX1_divide_0 {C : Nat → List Vv → Sg → Rs → Sg → Prop} {X : Nat → List Vv → List Vv → Sg → Prop} {Xr : List Vv → Sg → Prop} {Xt : Nat → Sg → Prop} (hC : Clo C 1 cX1_divide none X Xr Xt) {x1 x2 x3 : Int} {t0 : Nat} {σ : Sg} (h : if (1 : Int) < x3 then (∃ v1 : Int, C MX1_of [rV 11 t0, iV x1, iV x2] σ (.inl [lV v1]) σ ∧ (x3 ≠ 0 ∧ (∃ σ2 : Sg, C MX1_set [rV 11 t0, iV x1, iV x2, lV (w64 (v1.tdiv x3))] σ (.inl []) σ2 ∧ (Xr [] σ2)))) else (Xr [] σ)) : X 0 [rV 11 t0, iV x1, iV x2, lV x3, uV] [] σ := by
  refine st_lload_n (pc := 0) hC dX1_divide_0 rfl ?_
  refine st_lconst1 (pc := 1) hC dX1_divide_1 ?_
  refine st_lcmp_le (tg := 20) (pc := 2) hC dX1_divide_2 dX1_divide_3 (by decide) (ite_im h (fun h => ?_) (fun h => ?_))
  · refine st_aload_n (pc := 6) hC dX1_divide_6 rfl (by decide) (by decide) ?_
    refine st_iload_n (pc := 7) hC dX1_divide_7 rfl ?_
    refine st_iload_n (pc := 8) hC dX1_divide_8 rfl ?_
    refine st_aload_n (pc := 9) hC dX1_divide_9 rfl (by decide) (by decide) ?_
    refine st_iload_n (pc := 10) hC dX1_divide_10 rfl ?_
    refine st_iload_n (pc := 11) hC dX1_divide_11 rfl ?_
    obtain ⟨v1, hq, h⟩ := h
    refine st_invV (As := [iV x1, iV x2]) (v := [lV v1]) (S := [iV x2, iV x1, rV 11 t0]) (pc := 12) hC dX1_divide_12 cl_1_38 rfl rfl (Nat.le_of_ble_eq_true rfl) cr_X1_of hq ?_
    refine st_lload_n (pc := 15) hC dX1_divide_15 rfl ?_
    obtain ⟨h0, h⟩ := h
    refine st_ldiv (pc := 16) hC dX1_divide_16 h0 ?_
    obtain ⟨σ2, hq, h⟩ := h
    refine st_invV (As := [iV x1, iV x2, lV (w64 (v1.tdiv x3))]) (v := []) (S := []) (pc := 17) hC dX1_divide_17 cl_1_58 rfl rfl (Nat.le_of_ble_eq_true rfl) cr_X1_set hq ?_
    exact st_return (pc := 20) hC dX1_divide_20 h
  · exact st_return (pc := 20) hC dX1_divide_20 h
