theorem bX2_below_0 {C : Nat → List Vv → Sg → Rs → Sg → Prop} {X : Nat → List Vv → List Vv → Sg → Prop} {Xr : List Vv → Sg → Prop} {Xt : Nat → Sg → Prop} (hC : Clo C 2 cX2_below (some .int) X Xr Xt) {x1 : Int} {σ : Sg} (h : if (0 : Int) < x1 then (x1 ≠ 0 ∧ (Xr [iV ((iushrI ((upS σ 65 0 (w32 ((w32 (1103515245 * (σ 65 0))) + 12345))) 65 0) 16).tmod x1)] (upS σ 65 0 (w32 ((w32 (1103515245 * (σ 65 0))) + 12345))))) else (Xr [iV 0] (upS σ 65 0 (w32 ((w32 (1103515245 * (σ 65 0))) + 12345))))) : X 0 [rV 12 65, iV x1] [] σ := by
  refine st_aload_n (pc := 0) hC dX2_below_0 rfl (by decide) (by decide) ?_
  refine st_ldcI (pc := 1) hC dX2_below_1 rfl ?_
  refine st_aload_n (pc := 3) hC dX2_below_3 rfl (by decide) (by decide) ?_
  refine st_getf (ci := 2) (f := 0) (v := iV (σ 65 0)) (pc := 4) hC dX2_below_4 fl_2_7 rfl rfl ?_
  refine st_imul (pc := 7) hC dX2_below_7 ?_
  refine st_sipush (pc := 8) hC dX2_below_8 (by decide) ?_
  refine st_iadd (pc := 11) hC dX2_below_11 ?_
  refine st_putfI (ci := 2) (f := 0) (pc := 12) hC dX2_below_12 fl_2_7 rfl rfl ?_
  refine st_iload_n (pc := 15) hC dX2_below_15 rfl ?_
  refine st_if_le (tg := 31) (pc := 16) hC dX2_below_16 (by decide) (ite_im h (fun h => ?_) (fun h => ?_))
  · refine st_aload_n (pc := 19) hC dX2_below_19 rfl (by decide) (by decide) ?_
    refine st_getf (ci := 2) (f := 0) (v := iV ((upS σ 65 0 (w32 ((w32 (1103515245 * (σ 65 0))) + 12345))) 65 0)) (pc := 20) hC dX2_below_20 fl_2_7 rfl rfl ?_
    refine st_bipush (pc := 23) hC dX2_below_23 (by decide) ?_
    refine st_iushr (pc := 25) hC dX2_below_25 ?_
    refine st_iload_n (pc := 26) hC dX2_below_26 rfl ?_
    obtain ⟨h0, h⟩ := h
    refine st_irem (pc := 27) hC dX2_below_27 h0 ?_
    refine st_goto (tg := 32) (pc := 28) hC dX2_below_28 (by decide) ?_
    exact st_ireturn (pc := 32) hC dX2_below_32 trivial h
  · refine st_iconst (pc := 31) hC dX2_below_31 (by decide) ?_
    exact st_ireturn (pc := 32) hC dX2_below_32 trivial h
theorem bX9_layRow_0 {C : Nat → List Vv → Sg → Rs → Sg → Prop} {X : Nat → List Vv → List Vv → Sg → Prop} {Xr : List Vv → Sg → Prop} {Xt : Nat → Sg → Prop} (hC : Clo C 9 cX9_layRow none X Xr Xt) {x1 x2 : Int} {t0 : Nat} {σ : Sg} (h : ∃ σ1 : Sg, C MJ7_fill_d0a16 [rV 2000030 (t0 + 1), lV 0] (upS (upS σ t0 0 x1) t0 1 (max 0 (min x2 30))) (.inl []) σ1 ∧ (Xr [] σ1)) : X 0 [rV 18 t0, iV x1, iV x2] [] σ := by
  refine st_aload_n (pc := 0) hC dX9_layRow_0 rfl (by decide) (by decide) ?_
  refine st_iload_n (pc := 1) hC dX9_layRow_1 rfl ?_
  refine st_putfI (ci := 8) (f := 0) (pc := 2) hC dX9_layRow_2 fl_9_9 rfl rfl ?_
  refine st_aload_n (pc := 5) hC dX9_layRow_5 rfl (by decide) (by decide) ?_
  refine st_iconst (pc := 6) hC dX9_layRow_6 (by decide) ?_
  refine st_iload_n (pc := 7) hC dX9_layRow_7 rfl ?_
  refine st_bipush (pc := 8) hC dX9_layRow_8 (by decide) ?_
  refine st_mmin (pc := 10) hC dX9_layRow_10 rfl (Nat.le_of_ble_eq_true rfl) ?_
  refine st_mmax (pc := 13) hC dX9_layRow_13 rfl (Nat.le_of_ble_eq_true rfl) ?_
  refine st_putfI (ci := 8) (f := 1) (pc := 16) hC dX9_layRow_16 fl_9_15 rfl rfl ?_
  refine st_aload_n (pc := 19) hC dX9_layRow_19 rfl (by decide) (by decide) ?_
  refine st_getf (ci := 8) (f := 2) (v := rV 2000030 (t0 + 1)) (pc := 20) hC dX9_layRow_20 fl_9_18 rfl rfl ?_
  refine st_lconst0 (pc := 23) hC dX9_layRow_23 ?_
  obtain ⟨σ1, hq, h⟩ := h
  refine st_invS (As := [rV 2000030 (t0 + 1), lV 0]) (v := []) (S := []) (pc := 24) hC dX9_layRow_24 cl_9_31 rfl rfl (Nat.le_of_ble_eq_true rfl) hq ?_
  exact st_return (pc := 27) hC dX9_layRow_27 h
theorem bX9_at_0 {C : Nat → List Vv → Sg → Rs → Sg → Prop} {X : Nat → List Vv → List Vv → Sg → Prop} {Xr : List Vv → Sg → Prop} {Xt : Nat → Sg → Prop} (hC : Clo C 9 cX9_at (some .long) X Xr Xt) {x1 : Int} {t0 : Nat} {σ : Sg} (h : if x1 < 0 then (Xr [lV 0] σ) else (if x1 < (σ t0 1) then ((0 ≤ x1 ∧ x1 < 30) ∧ (Xr [lV (σ (t0 + 1) (x1).toNat)] σ)) else (Xr [lV 0] σ))) : X 0 [rV 18 t0, iV x1] [] σ := by
  refine st_iload_n (pc := 0) hC dX9_at_0 rfl ?_
  refine st_if_lt (tg := 21) (pc := 1) hC dX9_at_1 (by decide) (ite_im h (fun h => ?_) (fun h => ?_))
  · refine st_lconst0 (pc := 21) hC dX9_at_21 ?_
    exact st_lreturn (pc := 22) hC dX9_at_22 h
  · refine st_iload_n (pc := 4) hC dX9_at_4 rfl ?_
    refine st_aload_n (pc := 5) hC dX9_at_5 rfl (by decide) (by decide) ?_
    refine st_getf (ci := 8) (f := 1) (v := iV (σ t0 1)) (pc := 6) hC dX9_at_6 fl_9_15 rfl rfl ?_
    refine st_icmp_ge (tg := 21) (pc := 9) hC dX9_at_9 (by decide) (ite_im h (fun h => ?_) (fun h => ?_))
    · refine st_aload_n (pc := 12) hC dX9_at_12 rfl (by decide) (by decide) ?_
      refine st_getf (ci := 8) (f := 2) (v := rV 2000030 (t0 + 1)) (pc := 13) hC dX9_at_13 fl_9_18 rfl rfl ?_
      refine st_iload_n (pc := 16) hC dX9_at_16 rfl ?_
      obtain ⟨hb, h⟩ := h
      refine st_lald (n := 30) (pc := 17) hC dX9_at_17 (by decide) hb ?_
      refine st_goto (tg := 22) (pc := 18) hC dX9_at_18 (by decide) ?_
      exact st_lreturn (pc := 22) hC dX9_at_22 h
    · refine st_lconst0 (pc := 21) hC dX9_at_21 ?_
      exact st_lreturn (pc := 22) hC dX9_at_22 h
theorem bX9_put_0 {C : Nat → List Vv → Sg → Rs → Sg → Prop} {X : Nat → List Vv → List Vv → Sg → Prop} {Xr : List Vv → Sg → Prop} {Xt : Nat → Sg → Prop} (hC : Clo C 9 cX9_put (some .long) X Xr Xt) {x1 x2 : Int} {t0 : Nat} {σ : Sg} (h : ∃ v1 : Int, C MX9_cutToSort [rV 18 t0, lV x2] σ (.inl [lV v1]) σ ∧ (if x1 < 0 then (Xr [lV v1] σ) else (if x1 < (σ t0 1) then ((0 ≤ x1 ∧ x1 < 30) ∧ (Xr [lV v1] (upS σ (t0 + 1) (x1).toNat v1))) else (Xr [lV v1] σ)))) : X 0 [rV 18 t0, iV x1, lV x2, uV, uV, uV] [] σ := by
  refine st_aload_n (pc := 0) hC dX9_put_0 rfl (by decide) (by decide) ?_
  refine st_lload_n (pc := 1) hC dX9_put_1 rfl ?_
  obtain ⟨v1, hq, h⟩ := h
  refine st_invV (As := [lV x2]) (v := [lV v1]) (S := []) (pc := 2) hC dX9_put_2 cl_9_37 rfl rfl (Nat.le_of_ble_eq_true rfl) cr_X9_cutToSort hq ?_
  refine st_lstore (L2 := [rV 18 t0, iV x1, lV x2, uV, lV v1, uV]) (pc := 5) hC dX9_put_5 (Nat.le_of_ble_eq_true rfl) rfl ?_
  refine st_iload_n (pc := 7) hC dX9_put_7 rfl ?_
  refine st_if_lt (tg := 27) (pc := 8) hC dX9_put_8 (by decide) (ite_im h (fun h => ?_) (fun h => ?_))
  · refine st_lload (pc := 27) hC dX9_put_27 rfl ?_
    exact st_lreturn (pc := 29) hC dX9_put_29 h
  · refine st_iload_n (pc := 11) hC dX9_put_11 rfl ?_
    refine st_aload_n (pc := 12) hC dX9_put_12 rfl (by decide) (by decide) ?_
    refine st_getf (ci := 8) (f := 1) (v := iV (σ t0 1)) (pc := 13) hC dX9_put_13 fl_9_15 rfl rfl ?_
    refine st_icmp_ge (tg := 27) (pc := 16) hC dX9_put_16 (by decide) (ite_im h (fun h => ?_) (fun h => ?_))
    · refine st_aload_n (pc := 19) hC dX9_put_19 rfl (by decide) (by decide) ?_
      refine st_getf (ci := 8) (f := 2) (v := rV 2000030 (t0 + 1)) (pc := 20) hC dX9_put_20 fl_9_18 rfl rfl ?_
      refine st_iload_n (pc := 23) hC dX9_put_23 rfl ?_
      refine st_lload (pc := 24) hC dX9_put_24 rfl ?_
      obtain ⟨hb, h⟩ := h
      refine st_last (n := 30) (pc := 26) hC dX9_put_26 (by decide) hb ?_
      refine st_lload (pc := 27) hC dX9_put_27 rfl ?_
      exact st_lreturn (pc := 29) hC dX9_put_29 h
    · refine st_lload (pc := 27) hC dX9_put_27 rfl ?_
      exact st_lreturn (pc := 29) hC dX9_put_29 h
theorem bX9_cutToSort_0 {C : Nat → List Vv → Sg → Rs → Sg → Prop} {X : Nat → List Vv → List Vv → Sg → Prop} {Xr : List Vv → Sg → Prop} {Xt : Nat → Sg → Prop} (hC : Clo C 9 cX9_cutToSort (some .long) X Xr Xt) {x1 : Int} {t0 : Nat} {σ : Sg} (h : if (σ t0 0) = 0 then (Xr [lV (w8 (w32 x1))] σ) else (if (σ t0 0) = 1 then (Xr [lV (w16 (w32 x1))] σ) else (if (σ t0 0) = 2 then (Xr [lV (w32 x1)] σ) else (Xr [lV x1] σ)))) : X 0 [rV 18 t0, lV x1, uV] [] σ := by
  refine st_aload_n (pc := 0) hC dX9_cutToSort_0 rfl (by decide) (by decide) ?_
  refine st_getf (ci := 8) (f := 0) (v := iV (σ t0 0)) (pc := 1) hC dX9_cutToSort_1 fl_9_9 rfl rfl ?_
  refine st_tsw3 (t0 := 32) (t1 := 37) (t2 := 42) (td := 46) (pc := 4) hC dX9_cutToSort_4 (by decide) (by decide) (by decide) (by decide) (ite_im h (fun h => ?_) (fun h => ite_im h (fun h => ?_) (fun h => ite_im h (fun h => ?_) (fun h => ?_))))
  · refine st_lload_n (pc := 32) hC dX9_cutToSort_32 rfl ?_
    refine st_l2i (pc := 33) hC dX9_cutToSort_33 ?_
    refine st_i2b (pc := 34) hC dX9_cutToSort_34 ?_
    refine st_i2l (pc := 35) hC dX9_cutToSort_35 ?_
    exact st_lreturn (pc := 36) hC dX9_cutToSort_36 h
  · refine st_lload_n (pc := 37) hC dX9_cutToSort_37 rfl ?_
    refine st_l2i (pc := 38) hC dX9_cutToSort_38 ?_
    refine st_i2s (pc := 39) hC dX9_cutToSort_39 ?_
    refine st_i2l (pc := 40) hC dX9_cutToSort_40 ?_
    exact st_lreturn (pc := 41) hC dX9_cutToSort_41 h
  · refine st_lload_n (pc := 42) hC dX9_cutToSort_42 rfl ?_
    refine st_l2i (pc := 43) hC dX9_cutToSort_43 ?_
    refine st_i2l (pc := 44) hC dX9_cutToSort_44 ?_
    exact st_lreturn (pc := 45) hC dX9_cutToSort_45 h
  · refine st_lload_n (pc := 46) hC dX9_cutToSort_46 rfl ?_
    exact st_lreturn (pc := 47) hC dX9_cutToSort_47 h
theorem bX9_tellsRests_0 {C : Nat → List Vv → Sg → Rs → Sg → Prop} {X : Nat → List Vv → List Vv → Sg → Prop} {Xr : List Vv → Sg → Prop} {Xt : Nat → Sg → Prop} (hC : Clo C 9 cX9_tellsRests (some .boolean) X Xr Xt) {t0 : Nat} {σ : Sg} (h : X 2 [rV 18 t0, iV 0] [] σ) : X 0 [rV 18 t0, uV] [] σ := by
  refine st_iconst (pc := 0) hC dX9_tellsRests_0 (by decide) ?_
  refine st_istore_n (L2 := [rV 18 t0, iV 0]) (pc := 1) hC dX9_tellsRests_1 (Nat.le_of_ble_eq_true rfl) rfl ?_
  exact h
theorem bX9_tellsRests_2 {C : Nat → List Vv → Sg → Rs → Sg → Prop} {X : Nat → List Vv → List Vv → Sg → Prop} {Xr : List Vv → Sg → Prop} {Xt : Nat → Sg → Prop} (hC : Clo C 9 cX9_tellsRests (some .boolean) X Xr Xt) {x1 : Int} {t0 : Nat} {σ : Sg} (h : if x1 < (σ t0 1) then (∃ v1 : Int, C MX9_at [rV 18 t0, iV x1] σ (.inl [lV v1]) σ ∧ (if v1 < 2 then (Xr [iV 0] σ) else (∃ v2 : Int, C MX9_at [rV 18 t0, iV x1] σ (.inl [lV v2]) σ ∧ (if (1000 : Int) < v2 then (Xr [iV 0] σ) else (∃ v3 : Int, C MX9_at [rV 18 t0, iV (w32 (x1 + 1))] σ (.inl [lV v3]) σ ∧ (if v3 < 0 then (Xr [iV 0] σ) else (∃ v4 : Int, C MX9_at [rV 18 t0, iV (w32 (x1 + 1))] σ (.inl [lV v4]) σ ∧ (∃ v5 : Int, C MX9_at [rV 18 t0, iV x1] σ (.inl [lV v5]) σ ∧ (if v4 < v5 then (X 2 [rV 18 t0, iV (w32 (x1 + 2))] [] σ) else (Xr [iV 0] σ)))))))))) else (if ((σ t0 1).tmod 2) = 0 then (Xr [iV 1] σ) else (Xr [iV 0] σ))) : X 2 [rV 18 t0, iV x1] [] σ := by
  refine st_iload_n (pc := 2) hC dX9_tellsRests_2 rfl ?_
  refine st_aload_n (pc := 3) hC dX9_tellsRests_3 rfl (by decide) (by decide) ?_
  refine st_getf (ci := 8) (f := 1) (v := iV (σ t0 1)) (pc := 4) hC dX9_tellsRests_4 fl_9_15 rfl rfl ?_
  refine st_icmp_ge (tg := 70) (pc := 7) hC dX9_tellsRests_7 (by decide) (ite_im h (fun h => ?_) (fun h => ?_))
  · refine st_aload_n (pc := 10) hC dX9_tellsRests_10 rfl (by decide) (by decide) ?_
    refine st_iload_n (pc := 11) hC dX9_tellsRests_11 rfl ?_
    obtain ⟨v1, hq, h⟩ := h
    refine st_invV (As := [iV x1]) (v := [lV v1]) (S := []) (pc := 12) hC dX9_tellsRests_12 cl_9_41 rfl rfl (Nat.le_of_ble_eq_true rfl) cr_X9_at hq ?_
    refine st_ldc2 (pc := 15) hC dX9_tellsRests_15 rfl ?_
    refine st_lcmp_lt (tg := 62) (pc := 18) hC dX9_tellsRests_18 dX9_tellsRests_19 (by decide) (ite_im h (fun h => ?_) (fun h => ?_))
    · refine st_iconst (pc := 62) hC dX9_tellsRests_62 (by decide) ?_
      exact st_ireturn (pc := 63) hC dX9_tellsRests_63 (Or.inl rfl) h
    · refine st_aload_n (pc := 22) hC dX9_tellsRests_22 rfl (by decide) (by decide) ?_
      refine st_iload_n (pc := 23) hC dX9_tellsRests_23 rfl ?_
      obtain ⟨v2, hq, h⟩ := h
      refine st_invV (As := [iV x1]) (v := [lV v2]) (S := []) (pc := 24) hC dX9_tellsRests_24 cl_9_41 rfl rfl (Nat.le_of_ble_eq_true rfl) cr_X9_at hq ?_
      refine st_ldc2 (pc := 27) hC dX9_tellsRests_27 rfl ?_
      refine st_lcmp_gt (tg := 62) (pc := 30) hC dX9_tellsRests_30 dX9_tellsRests_31 (by decide) (ite_im h (fun h => ?_) (fun h => ?_))
      · refine st_iconst (pc := 62) hC dX9_tellsRests_62 (by decide) ?_
        exact st_ireturn (pc := 63) hC dX9_tellsRests_63 (Or.inl rfl) h
      · refine st_aload_n (pc := 34) hC dX9_tellsRests_34 rfl (by decide) (by decide) ?_
        refine st_iload_n (pc := 35) hC dX9_tellsRests_35 rfl ?_
        refine st_iconst (pc := 36) hC dX9_tellsRests_36 (by decide) ?_
        refine st_iadd (pc := 37) hC dX9_tellsRests_37 ?_
        obtain ⟨v3, hq, h⟩ := h
        refine st_invV (As := [iV (w32 (x1 + 1))]) (v := [lV v3]) (S := []) (pc := 38) hC dX9_tellsRests_38 cl_9_41 rfl rfl (Nat.le_of_ble_eq_true rfl) cr_X9_at hq ?_
        refine st_lconst0 (pc := 41) hC dX9_tellsRests_41 ?_
        refine st_lcmp_lt (tg := 62) (pc := 42) hC dX9_tellsRests_42 dX9_tellsRests_43 (by decide) (ite_im h (fun h => ?_) (fun h => ?_))
        · refine st_iconst (pc := 62) hC dX9_tellsRests_62 (by decide) ?_
          exact st_ireturn (pc := 63) hC dX9_tellsRests_63 (Or.inl rfl) h
        · refine st_aload_n (pc := 46) hC dX9_tellsRests_46 rfl (by decide) (by decide) ?_
          refine st_iload_n (pc := 47) hC dX9_tellsRests_47 rfl ?_
          refine st_iconst (pc := 48) hC dX9_tellsRests_48 (by decide) ?_
          refine st_iadd (pc := 49) hC dX9_tellsRests_49 ?_
          obtain ⟨v4, hq, h⟩ := h
          refine st_invV (As := [iV (w32 (x1 + 1))]) (v := [lV v4]) (S := []) (pc := 50) hC dX9_tellsRests_50 cl_9_41 rfl rfl (Nat.le_of_ble_eq_true rfl) cr_X9_at hq ?_
          refine st_aload_n (pc := 53) hC dX9_tellsRests_53 rfl (by decide) (by decide) ?_
          refine st_iload_n (pc := 54) hC dX9_tellsRests_54 rfl ?_
          obtain ⟨v5, hq, h⟩ := h
          refine st_invV (As := [iV x1]) (v := [lV v5]) (S := [lV v4]) (pc := 55) hC dX9_tellsRests_55 cl_9_41 rfl rfl (Nat.le_of_ble_eq_true rfl) cr_X9_at hq ?_
          refine st_lcmp_lt (tg := 64) (pc := 58) hC dX9_tellsRests_58 dX9_tellsRests_59 (by decide) (ite_im h (fun h => ?_) (fun h => ?_))
          · refine st_iinc (L2 := [rV 18 t0, iV (w32 (x1 + 2))]) (pc := 64) hC dX9_tellsRests_64 rfl (Nat.le_of_ble_eq_true rfl) rfl ?_
            refine st_goto (tg := 2) (pc := 67) hC dX9_tellsRests_67 (by decide) ?_
            exact h
          · refine st_iconst (pc := 62) hC dX9_tellsRests_62 (by decide) ?_
            exact st_ireturn (pc := 63) hC dX9_tellsRests_63 (Or.inl rfl) h
  · refine st_aload_n (pc := 70) hC dX9_tellsRests_70 rfl (by decide) (by decide) ?_
    refine st_getf (ci := 8) (f := 1) (v := iV (σ t0 1)) (pc := 71) hC dX9_tellsRests_71 fl_9_15 rfl rfl ?_
    refine st_iconst (pc := 74) hC dX9_tellsRests_74 (by decide) ?_
    refine st_irem (pc := 75) hC dX9_tellsRests_75 (by decide) ?_
    refine st_if_ne (tg := 83) (pc := 76) hC dX9_tellsRests_76 (by decide) (ite_im h (fun h => ?_) (fun h => ?_))
    · refine st_iconst (pc := 79) hC dX9_tellsRests_79 (by decide) ?_
      refine st_goto (tg := 84) (pc := 80) hC dX9_tellsRests_80 (by decide) ?_
      exact st_ireturn (pc := 84) hC dX9_tellsRests_84 (Or.inr rfl) h
    · refine st_iconst (pc := 83) hC dX9_tellsRests_83 (by decide) ?_
      exact st_ireturn (pc := 84) hC dX9_tellsRests_84 (Or.inl rfl) h
theorem bX9_allRestsOf_0 {C : Nat → List Vv → Sg → Rs → Sg → Prop} {X : Nat → List Vv → List Vv → Sg → Prop} {Xr : List Vv → Sg → Prop} {Xt : Nat → Sg → Prop} (hC : Clo C 9 cX9_allRestsOf (some .boolean) X Xr Xt) {x1 : Int} {t0 : Nat} {σ : Sg} (h : X 2 [rV 18 t0, lV x1, uV, iV 0] [] σ) : X 0 [rV 18 t0, lV x1, uV, uV] [] σ := by
  refine st_iconst (pc := 0) hC dX9_allRestsOf_0 (by decide) ?_
  refine st_istore_n (L2 := [rV 18 t0, lV x1, uV, iV 0]) (pc := 1) hC dX9_allRestsOf_1 (Nat.le_of_ble_eq_true rfl) rfl ?_
  exact h
theorem bX9_allRestsOf_2 {C : Nat → List Vv → Sg → Rs → Sg → Prop} {X : Nat → List Vv → List Vv → Sg → Prop} {Xr : List Vv → Sg → Prop} {Xt : Nat → Sg → Prop} (hC : Clo C 9 cX9_allRestsOf (some .boolean) X Xr Xt) {x1 x3 : Int} {t0 : Nat} {σ : Sg} (h : if x3 < (σ t0 1) then (∃ v1 : Int, C MX9_at [rV 18 t0, iV x3] σ (.inl [lV v1]) σ ∧ (if (1 : Int) < v1 then (∃ v2 : Int, C MX9_at [rV 18 t0, iV x3] σ (.inl [lV v2]) σ ∧ (v2 ≠ 0 ∧ (∃ v3 : Int, C MX9_at [rV 18 t0, iV (w32 (x3 + 1))] σ (.inl [lV v3]) σ ∧ (if (x1.tmod v2) = v3 then (X 2 [rV 18 t0, lV x1, uV, iV (w32 (x3 + 2))] [] σ) else (Xr [iV 0] σ))))) else (X 2 [rV 18 t0, lV x1, uV, iV (w32 (x3 + 2))] [] σ))) else (Xr [iV 1] σ)) : X 2 [rV 18 t0, lV x1, uV, iV x3] [] σ := by
  refine st_iload_n (pc := 2) hC dX9_allRestsOf_2 rfl ?_
  refine st_aload_n (pc := 3) hC dX9_allRestsOf_3 rfl (by decide) (by decide) ?_
  refine st_getf (ci := 8) (f := 1) (v := iV (σ t0 1)) (pc := 4) hC dX9_allRestsOf_4 fl_9_15 rfl rfl ?_
  refine st_icmp_ge (tg := 46) (pc := 7) hC dX9_allRestsOf_7 (by decide) (ite_im h (fun h => ?_) (fun h => ?_))
  · refine st_aload_n (pc := 10) hC dX9_allRestsOf_10 rfl (by decide) (by decide) ?_
    refine st_iload_n (pc := 11) hC dX9_allRestsOf_11 rfl ?_
    obtain ⟨v1, hq, h⟩ := h
    refine st_invV (As := [iV x3]) (v := [lV v1]) (S := []) (pc := 12) hC dX9_allRestsOf_12 cl_9_41 rfl rfl (Nat.le_of_ble_eq_true rfl) cr_X9_at hq ?_
    refine st_lconst1 (pc := 15) hC dX9_allRestsOf_15 ?_
    refine st_lcmp_le (tg := 40) (pc := 16) hC dX9_allRestsOf_16 dX9_allRestsOf_17 (by decide) (ite_im h (fun h => ?_) (fun h => ?_))
    · refine st_lload_n (pc := 20) hC dX9_allRestsOf_20 rfl ?_
      refine st_aload_n (pc := 21) hC dX9_allRestsOf_21 rfl (by decide) (by decide) ?_
      refine st_iload_n (pc := 22) hC dX9_allRestsOf_22 rfl ?_
      obtain ⟨v2, hq, h⟩ := h
      refine st_invV (As := [iV x3]) (v := [lV v2]) (S := [lV x1]) (pc := 23) hC dX9_allRestsOf_23 cl_9_41 rfl rfl (Nat.le_of_ble_eq_true rfl) cr_X9_at hq ?_
      obtain ⟨h0, h⟩ := h
      refine st_lrem (pc := 26) hC dX9_allRestsOf_26 h0 ?_
      refine st_aload_n (pc := 27) hC dX9_allRestsOf_27 rfl (by decide) (by decide) ?_
      refine st_iload_n (pc := 28) hC dX9_allRestsOf_28 rfl ?_
      refine st_iconst (pc := 29) hC dX9_allRestsOf_29 (by decide) ?_
      refine st_iadd (pc := 30) hC dX9_allRestsOf_30 ?_
      obtain ⟨v3, hq, h⟩ := h
      refine st_invV (As := [iV (w32 (x3 + 1))]) (v := [lV v3]) (S := [lV (x1.tmod v2)]) (pc := 31) hC dX9_allRestsOf_31 cl_9_41 rfl rfl (Nat.le_of_ble_eq_true rfl) cr_X9_at hq ?_
      refine st_lcmp_eq (tg := 40) (pc := 34) hC dX9_allRestsOf_34 dX9_allRestsOf_35 (by decide) (ite_im h (fun h => ?_) (fun h => ?_))
      · refine st_iinc (L2 := [rV 18 t0, lV x1, uV, iV (w32 (x3 + 2))]) (pc := 40) hC dX9_allRestsOf_40 rfl (Nat.le_of_ble_eq_true rfl) rfl ?_
        refine st_goto (tg := 2) (pc := 43) hC dX9_allRestsOf_43 (by decide) ?_
        exact h
      · refine st_iconst (pc := 38) hC dX9_allRestsOf_38 (by decide) ?_
        exact st_ireturn (pc := 39) hC dX9_allRestsOf_39 (Or.inl rfl) h
    · refine st_iinc (L2 := [rV 18 t0, lV x1, uV, iV (w32 (x3 + 2))]) (pc := 40) hC dX9_allRestsOf_40 rfl (Nat.le_of_ble_eq_true rfl) rfl ?_
      refine st_goto (tg := 2) (pc := 43) hC dX9_allRestsOf_43 (by decide) ?_
      exact h
  · refine st_iconst (pc := 46) hC dX9_allRestsOf_46 (by decide) ?_
    exact st_ireturn (pc := 47) hC dX9_allRestsOf_47 (Or.inr rfl) h
