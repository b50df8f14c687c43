theorem bX3_isSmallPrime_0 {C : Nat → List Vv → Sg → Rs → Sg → Prop} {X : Nat → List Vv → List Vv → Sg → Prop} {Xr : List Vv → Sg → Prop} {Xt : Nat → Sg → Prop} (hC : Clo C 3 cX3_isSmallPrime (some .boolean) X Xr Xt) {x0 : Int} {σ : Sg} (h : X 2 [iV x0, iV 0] [] σ) : X 0 [iV x0, uV] [] σ := by
  refine st_iconst (pc := 0) hC dX3_isSmallPrime_0 (by decide) ?_
  refine st_istore_n (L2 := [iV x0, iV 0]) (pc := 1) hC dX3_isSmallPrime_1 (Nat.le_of_ble_eq_true rfl) rfl ?_
  exact h
theorem bX3_isSmallPrime_2 {C : Nat → List Vv → Sg → Rs → Sg → Prop} {X : Nat → List Vv → List Vv → Sg → Prop} {Xr : List Vv → Sg → Prop} {Xt : Nat → Sg → Prop} (hC : Clo C 3 cX3_isSmallPrime (some .boolean) X Xr Xt) {x0 x1 : Int} {σ : Sg} (h : if x1 < 25 then ((0 ≤ x1 ∧ x1 < 25) ∧ (if (prm (x1).toNat) = x0 then (Xr [iV 1] σ) else (X 2 [iV x0, iV (w32 (x1 + 1))] [] σ))) else (Xr [iV 0] σ)) : X 2 [iV x0, iV x1] [] σ := by
  refine st_iload_n (pc := 2) hC dX3_isSmallPrime_2 rfl ?_
  refine st_getsP (pc := 3) hC dX3_isSmallPrime_3 rfl ?_
  refine st_alen (n := 25) (pc := 6) hC dX3_isSmallPrime_6 (by decide) ?_
  refine st_icmp_ge (tg := 27) (pc := 7) hC dX3_isSmallPrime_7 (by decide) (ite_im h (fun h => ?_) (fun h => ?_))
  · refine st_getsP (pc := 10) hC dX3_isSmallPrime_10 rfl ?_
    refine st_iload_n (pc := 13) hC dX3_isSmallPrime_13 rfl ?_
    obtain ⟨hb, h⟩ := h
    refine st_ialdP (pc := 14) hC dX3_isSmallPrime_14 hb ?_
    refine st_iload_n (pc := 15) hC dX3_isSmallPrime_15 rfl ?_
    refine st_icmp_ne (tg := 21) (pc := 16) hC dX3_isSmallPrime_16 (by decide) (ite_im h (fun h => ?_) (fun h => ?_))
    · refine st_iconst (pc := 19) hC dX3_isSmallPrime_19 (by decide) ?_
      exact st_ireturn (pc := 20) hC dX3_isSmallPrime_20 (Or.inr rfl) h
    · refine st_iinc (L2 := [iV x0, iV (w32 (x1 + 1))]) (pc := 21) hC dX3_isSmallPrime_21 rfl (Nat.le_of_ble_eq_true rfl) rfl ?_
      refine st_goto (tg := 2) (pc := 24) hC dX3_isSmallPrime_24 (by decide) ?_
      exact h
  · refine st_iconst (pc := 27) hC dX3_isSmallPrime_27 (by decide) ?_
    exact st_ireturn (pc := 28) hC dX3_isSmallPrime_28 (Or.inl rfl) h
theorem bX3_commonFactor_0 {C : Nat → List Vv → Sg → Rs → Sg → Prop} {X : Nat → List Vv → List Vv → Sg → Prop} {Xr : List Vv → Sg → Prop} {Xt : Nat → Sg → Prop} (hC : Clo C 3 cX3_commonFactor (some .long) X Xr Xt) {x0 x2 : Int} {σ : Sg} (h : X 9 [lV x0, uV, lV x2, uV, lV x0, uV, lV x2, uV, iV 0, uV, uV] [] σ) : X 0 [lV x0, uV, lV x2, uV, uV, uV, uV, uV, uV, uV, uV] [] σ := by
  refine st_lload_n (pc := 0) hC dX3_commonFactor_0 rfl ?_
  refine st_lstore (L2 := [lV x0, uV, lV x2, uV, lV x0, uV, uV, uV, uV, uV, uV]) (pc := 1) hC dX3_commonFactor_1 (Nat.le_of_ble_eq_true rfl) rfl ?_
  refine st_lload_n (pc := 3) hC dX3_commonFactor_3 rfl ?_
  refine st_lstore (L2 := [lV x0, uV, lV x2, uV, lV x0, uV, lV x2, uV, uV, uV, uV]) (pc := 4) hC dX3_commonFactor_4 (Nat.le_of_ble_eq_true rfl) rfl ?_
  refine st_iconst (pc := 6) hC dX3_commonFactor_6 (by decide) ?_
  refine st_istore (L2 := [lV x0, uV, lV x2, uV, lV x0, uV, lV x2, uV, iV 0, uV, uV]) (pc := 7) hC dX3_commonFactor_7 (Nat.le_of_ble_eq_true rfl) rfl ?_
  exact h
theorem bX3_commonFactor_9 {C : Nat → List Vv → Sg → Rs → Sg → Prop} {X : Nat → List Vv → List Vv → Sg → Prop} {Xr : List Vv → Sg → Prop} {Xt : Nat → Sg → Prop} (hC : Clo C 3 cX3_commonFactor (some .long) X Xr Xt) {x0 x2 x4 x6 x8 : Int} {σ : Sg} (h : if x8 < 100 then (if x6 = 0 then (Xr [lV x4] σ) else (x6 ≠ 0 ∧ (X 9 [lV x0, uV, lV x2, uV, lV x6, uV, lV (x4.tmod x6), uV, iV (w32 (x8 + 1)), uV, uV] [] σ))) else (Xr [lV x4] σ)) : X 9 [lV x0, uV, lV x2, uV, lV x4, uV, lV x6, uV, iV x8, uV, uV] [] σ := by
  refine st_iload (pc := 9) hC dX3_commonFactor_9 rfl ?_
  refine st_bipush (pc := 11) hC dX3_commonFactor_11 (by decide) ?_
  refine st_icmp_ge (tg := 44) (pc := 13) hC dX3_commonFactor_13 (by decide) (ite_im h (fun h => ?_) (fun h => ?_))
  · refine st_lload (pc := 16) hC dX3_commonFactor_16 rfl ?_
    refine st_lconst0 (pc := 18) hC dX3_commonFactor_18 ?_
    refine st_lcmp_eq (tg := 44) (pc := 19) hC dX3_commonFactor_19 dX3_commonFactor_20 (by decide) (ite_im h (fun h => ?_) (fun h => ?_))
    · refine st_lload (pc := 44) hC dX3_commonFactor_44 rfl ?_
      exact st_lreturn (pc := 46) hC dX3_commonFactor_46 h
    · refine st_lload (pc := 23) hC dX3_commonFactor_23 rfl ?_
      refine st_lload (pc := 25) hC dX3_commonFactor_25 rfl ?_
      obtain ⟨h0, h⟩ := h
      refine st_lrem (pc := 27) hC dX3_commonFactor_27 h0 ?_
      refine st_lstore (L2 := [lV x0, uV, lV x2, uV, lV x4, uV, lV x6, uV, iV x8, lV (x4.tmod x6), uV]) (pc := 28) hC dX3_commonFactor_28 (Nat.le_of_ble_eq_true rfl) rfl ?_
      refine st_lload (pc := 30) hC dX3_commonFactor_30 rfl ?_
      refine st_lstore (L2 := [lV x0, uV, lV x2, uV, lV x6, uV, lV x6, uV, iV x8, lV (x4.tmod x6), uV]) (pc := 32) hC dX3_commonFactor_32 (Nat.le_of_ble_eq_true rfl) rfl ?_
      refine st_lload (pc := 34) hC dX3_commonFactor_34 rfl ?_
      refine st_lstore (L2 := [lV x0, uV, lV x2, uV, lV x6, uV, lV (x4.tmod x6), uV, iV x8, lV (x4.tmod x6), uV]) (pc := 36) hC dX3_commonFactor_36 (Nat.le_of_ble_eq_true rfl) rfl ?_
      refine st_iinc (L2 := [lV x0, uV, lV x2, uV, lV x6, uV, lV (x4.tmod x6), uV, iV (w32 (x8 + 1)), lV (x4.tmod x6), uV]) (pc := 38) hC dX3_commonFactor_38 rfl (Nat.le_of_ble_eq_true rfl) rfl ?_
      refine st_goto (tg := 9) (pc := 41) hC dX3_commonFactor_41 (by decide) ?_
      exact st_fg (L2 := [lV x0, uV, lV x2, uV, lV x6, uV, lV (x4.tmod x6), uV, iV (w32 (x8 + 1)), uV, uV]) hC ⟨Or.inl rfl, Or.inl rfl, Or.inl rfl, Or.inl rfl, Or.inl rfl, Or.inl rfl, Or.inl rfl, Or.inl rfl, Or.inl rfl, Or.inr rfl, Or.inl rfl, trivial⟩ h
  · refine st_lload (pc := 44) hC dX3_commonFactor_44 rfl ?_
    exact st_lreturn (pc := 46) hC dX3_commonFactor_46 h
theorem bX3_whole_0 {C : Nat → List Vv → Sg → Rs → Sg → Prop} {X : Nat → List Vv → List Vv → Sg → Prop} {Xr : List Vv → Sg → Prop} {Xt : Nat → Sg → Prop} (hC : Clo C 3 cX3_whole (some .long) X Xr Xt) {x0 x1 : Int} {σ : Sg} (h : X 5 [iV x0, iV x1, lV 1, uV, iV 0] [] σ) : X 0 [iV x0, iV x1, uV, uV, uV] [] σ := by
  refine st_lconst1 (pc := 0) hC dX3_whole_0 ?_
  refine st_lstore_n (L2 := [iV x0, iV x1, lV 1, uV, uV]) (pc := 1) hC dX3_whole_1 (Nat.le_of_ble_eq_true rfl) rfl ?_
  refine st_iconst (pc := 2) hC dX3_whole_2 (by decide) ?_
  refine st_istore (L2 := [iV x0, iV x1, lV 1, uV, iV 0]) (pc := 3) hC dX3_whole_3 (Nat.le_of_ble_eq_true rfl) rfl ?_
  exact h
theorem bX3_whole_5 {C : Nat → List Vv → Sg → Rs → Sg → Prop} {X : Nat → List Vv → List Vv → Sg → Prop} {Xr : List Vv → Sg → Prop} {Xt : Nat → Sg → Prop} (hC : Clo C 3 cX3_whole (some .long) X Xr Xt) {x0 x1 x2 x4 : Int} {σ : Sg} (h : if x4 < x1 then (X 5 [iV x0, iV x1, lV (w64 (x2 * x0)), uV, iV (w32 (x4 + 1))] [] σ) else (Xr [lV x2] σ)) : X 5 [iV x0, iV x1, lV x2, uV, iV x4] [] σ := by
  refine st_iload (pc := 5) hC dX3_whole_5 rfl ?_
  refine st_iload_n (pc := 7) hC dX3_whole_7 rfl ?_
  refine st_icmp_ge (tg := 22) (pc := 8) hC dX3_whole_8 (by decide) (ite_im h (fun h => ?_) (fun h => ?_))
  · refine st_lload_n (pc := 11) hC dX3_whole_11 rfl ?_
    refine st_iload_n (pc := 12) hC dX3_whole_12 rfl ?_
    refine st_i2l (pc := 13) hC dX3_whole_13 ?_
    refine st_lmul (pc := 14) hC dX3_whole_14 ?_
    refine st_lstore_n (L2 := [iV x0, iV x1, lV (w64 (x2 * x0)), uV, iV x4]) (pc := 15) hC dX3_whole_15 (Nat.le_of_ble_eq_true rfl) rfl ?_
    refine st_iinc (L2 := [iV x0, iV x1, lV (w64 (x2 * x0)), uV, iV (w32 (x4 + 1))]) (pc := 16) hC dX3_whole_16 rfl (Nat.le_of_ble_eq_true rfl) rfl ?_
    refine st_goto (tg := 5) (pc := 19) hC dX3_whole_19 (by decide) ?_
    exact h
  · refine st_lload_n (pc := 22) hC dX3_whole_22 rfl ?_
    exact st_lreturn (pc := 23) hC dX3_whole_23 h
theorem bX3_power_0 {C : Nat → List Vv → Sg → Rs → Sg → Prop} {X : Nat → List Vv → List Vv → Sg → Prop} {Xr : List Vv → Sg → Prop} {Xt : Nat → Sg → Prop} (hC : Clo C 3 cX3_power (some .long) X Xr Xt) {x0 x2 x3 : Int} {σ : Sg} (h : if x3 < 1 then (Xr [lV 0] σ) else (x3 ≠ 0 ∧ (x3 ≠ 0 ∧ (X 24 [lV x0, uV, iV x2, lV x3, uV, lV ((1 : Int).tmod x3), uV, lV (x0.tmod x3), uV, iV x2, iV 0] [] σ)))) : X 0 [lV x0, uV, iV x2, lV x3, uV, uV, uV, uV, uV, uV, uV] [] σ := by
  refine st_lload_n (pc := 0) hC dX3_power_0 rfl ?_
  refine st_lconst1 (pc := 1) hC dX3_power_1 ?_
  refine st_lcmp_ge (tg := 8) (pc := 2) hC dX3_power_2 dX3_power_3 (by decide) (ite_im h (fun h => ?_) (fun h => ?_))
  · refine st_lconst0 (pc := 6) hC dX3_power_6 ?_
    exact st_lreturn (pc := 7) hC dX3_power_7 h
  · refine st_lconst1 (pc := 8) hC dX3_power_8 ?_
    refine st_lload_n (pc := 9) hC dX3_power_9 rfl ?_
    obtain ⟨h0, h⟩ := h
    refine st_lrem (pc := 10) hC dX3_power_10 h0 ?_
    refine st_lstore (L2 := [lV x0, uV, iV x2, lV x3, uV, lV ((1 : Int).tmod x3), uV, uV, uV, uV, uV]) (pc := 11) hC dX3_power_11 (Nat.le_of_ble_eq_true rfl) rfl ?_
    refine st_lload_n (pc := 13) hC dX3_power_13 rfl ?_
    refine st_lload_n (pc := 14) hC dX3_power_14 rfl ?_
    obtain ⟨h0, h⟩ := h
    refine st_lrem (pc := 15) hC dX3_power_15 h0 ?_
    refine st_lstore (L2 := [lV x0, uV, iV x2, lV x3, uV, lV ((1 : Int).tmod x3), uV, lV (x0.tmod x3), uV, uV, uV]) (pc := 16) hC dX3_power_16 (Nat.le_of_ble_eq_true rfl) rfl ?_
    refine st_iload_n (pc := 18) hC dX3_power_18 rfl ?_
    refine st_istore (L2 := [lV x0, uV, iV x2, lV x3, uV, lV ((1 : Int).tmod x3), uV, lV (x0.tmod x3), uV, iV x2, uV]) (pc := 19) hC dX3_power_19 (Nat.le_of_ble_eq_true rfl) rfl ?_
    refine st_iconst (pc := 21) hC dX3_power_21 (by decide) ?_
    refine st_istore (L2 := [lV x0, uV, iV x2, lV x3, uV, lV ((1 : Int).tmod x3), uV, lV (x0.tmod x3), uV, iV x2, iV 0]) (pc := 22) hC dX3_power_22 (Nat.le_of_ble_eq_true rfl) rfl ?_
    exact h
theorem bX3_power_24 {C : Nat → List Vv → Sg → Rs → Sg → Prop} {X : Nat → List Vv → List Vv → Sg → Prop} {Xr : List Vv → Sg → Prop} {Xt : Nat → Sg → Prop} (hC : Clo C 3 cX3_power (some .long) X Xr Xt) {x0 x2 x3 x5 x7 x9 x10 : Int} {σ : Sg} (h : if x10 < 32 then (if (0 : Int) < x9 then (if (x9.tmod 2) = 1 then (x3 ≠ 0 ∧ (x3 ≠ 0 ∧ (X 24 [lV x0, uV, iV x2, lV x3, uV, lV ((w64 (x5 * x7)).tmod x3), uV, lV ((w64 (x7 * x7)).tmod x3), uV, iV (w32 (x9.tdiv 2)), iV (w32 (x10 + 1))] [] σ))) else (x3 ≠ 0 ∧ (X 24 [lV x0, uV, iV x2, lV x3, uV, lV x5, uV, lV ((w64 (x7 * x7)).tmod x3), uV, iV (w32 (x9.tdiv 2)), iV (w32 (x10 + 1))] [] σ))) else (Xr [lV x5] σ)) else (Xr [lV x5] σ)) : X 24 [lV x0, uV, iV x2, lV x3, uV, lV x5, uV, lV x7, uV, iV x9, iV x10] [] σ := by
  refine st_iload (pc := 24) hC dX3_power_24 rfl ?_
  refine st_bipush (pc := 26) hC dX3_power_26 (by decide) ?_
  refine st_icmp_ge (tg := 74) (pc := 28) hC dX3_power_28 (by decide) (ite_im h (fun h => ?_) (fun h => ?_))
  · refine st_iload (pc := 31) hC dX3_power_31 rfl ?_
    refine st_if_le (tg := 74) (pc := 33) hC dX3_power_33 (by decide) (ite_im h (fun h => ?_) (fun h => ?_))
    · refine st_iload (pc := 36) hC dX3_power_36 rfl ?_
      refine st_iconst (pc := 38) hC dX3_power_38 (by decide) ?_
      refine st_irem (pc := 39) hC dX3_power_39 (by decide) ?_
      refine st_iconst (pc := 40) hC dX3_power_40 (by decide) ?_
      refine st_icmp_ne (tg := 53) (pc := 41) hC dX3_power_41 (by decide) (ite_im h (fun h => ?_) (fun h => ?_))
      · refine st_lload (pc := 44) hC dX3_power_44 rfl ?_
        refine st_lload (pc := 46) hC dX3_power_46 rfl ?_
        refine st_lmul (pc := 48) hC dX3_power_48 ?_
        refine st_lload_n (pc := 49) hC dX3_power_49 rfl ?_
        obtain ⟨h0, h⟩ := h
        refine st_lrem (pc := 50) hC dX3_power_50 h0 ?_
        refine st_lstore (L2 := [lV x0, uV, iV x2, lV x3, uV, lV ((w64 (x5 * x7)).tmod x3), uV, lV x7, uV, iV x9, iV x10]) (pc := 51) hC dX3_power_51 (Nat.le_of_ble_eq_true rfl) rfl ?_
        refine st_lload (pc := 53) hC dX3_power_53 rfl ?_
        refine st_lload (pc := 55) hC dX3_power_55 rfl ?_
        refine st_lmul (pc := 57) hC dX3_power_57 ?_
        refine st_lload_n (pc := 58) hC dX3_power_58 rfl ?_
        obtain ⟨h0, h⟩ := h
        refine st_lrem (pc := 59) hC dX3_power_59 h0 ?_
        refine st_lstore (L2 := [lV x0, uV, iV x2, lV x3, uV, lV ((w64 (x5 * x7)).tmod x3), uV, lV ((w64 (x7 * x7)).tmod x3), uV, iV x9, iV x10]) (pc := 60) hC dX3_power_60 (Nat.le_of_ble_eq_true rfl) rfl ?_
        refine st_iload (pc := 62) hC dX3_power_62 rfl ?_
        refine st_iconst (pc := 64) hC dX3_power_64 (by decide) ?_
        refine st_idiv (pc := 65) hC dX3_power_65 (by decide) ?_
        refine st_istore (L2 := [lV x0, uV, iV x2, lV x3, uV, lV ((w64 (x5 * x7)).tmod x3), uV, lV ((w64 (x7 * x7)).tmod x3), uV, iV (w32 (x9.tdiv 2)), iV x10]) (pc := 66) hC dX3_power_66 (Nat.le_of_ble_eq_true rfl) rfl ?_
        refine st_iinc (L2 := [lV x0, uV, iV x2, lV x3, uV, lV ((w64 (x5 * x7)).tmod x3), uV, lV ((w64 (x7 * x7)).tmod x3), uV, iV (w32 (x9.tdiv 2)), iV (w32 (x10 + 1))]) (pc := 68) hC dX3_power_68 rfl (Nat.le_of_ble_eq_true rfl) rfl ?_
        refine st_goto (tg := 24) (pc := 71) hC dX3_power_71 (by decide) ?_
        exact h
      · refine st_lload (pc := 53) hC dX3_power_53 rfl ?_
        refine st_lload (pc := 55) hC dX3_power_55 rfl ?_
        refine st_lmul (pc := 57) hC dX3_power_57 ?_
        refine st_lload_n (pc := 58) hC dX3_power_58 rfl ?_
        obtain ⟨h0, h⟩ := h
        refine st_lrem (pc := 59) hC dX3_power_59 h0 ?_
        refine st_lstore (L2 := [lV x0, uV, iV x2, lV x3, uV, lV x5, uV, lV ((w64 (x7 * x7)).tmod x3), uV, iV x9, iV x10]) (pc := 60) hC dX3_power_60 (Nat.le_of_ble_eq_true rfl) rfl ?_
        refine st_iload (pc := 62) hC dX3_power_62 rfl ?_
        refine st_iconst (pc := 64) hC dX3_power_64 (by decide) ?_
        refine st_idiv (pc := 65) hC dX3_power_65 (by decide) ?_
        refine st_istore (L2 := [lV x0, uV, iV x2, lV x3, uV, lV x5, uV, lV ((w64 (x7 * x7)).tmod x3), uV, iV (w32 (x9.tdiv 2)), iV x10]) (pc := 66) hC dX3_power_66 (Nat.le_of_ble_eq_true rfl) rfl ?_
        refine st_iinc (L2 := [lV x0, uV, iV x2, lV x3, uV, lV x5, uV, lV ((w64 (x7 * x7)).tmod x3), uV, iV (w32 (x9.tdiv 2)), iV (w32 (x10 + 1))]) (pc := 68) hC dX3_power_68 rfl (Nat.le_of_ble_eq_true rfl) rfl ?_
        refine st_goto (tg := 24) (pc := 71) hC dX3_power_71 (by decide) ?_
        exact h
    · refine st_lload (pc := 74) hC dX3_power_74 rfl ?_
      exact st_lreturn (pc := 76) hC dX3_power_76 h
  · refine st_lload (pc := 74) hC dX3_power_74 rfl ?_
    exact st_lreturn (pc := 76) hC dX3_power_76 h
theorem bX3_leastFactor_0 {C : Nat → List Vv → Sg → Rs → Sg → Prop} {X : Nat → List Vv → List Vv → Sg → Prop} {Xr : List Vv → Sg → Prop} {Xt : Nat → Sg → Prop} (hC : Clo C 3 cX3_leastFactor (some .int) X Xr Xt) {x0 : Int} {σ : Sg} (h : X 2 [iV x0, iV 2] [] σ) : X 0 [iV x0, uV] [] σ := by
  refine st_iconst (pc := 0) hC dX3_leastFactor_0 (by decide) ?_
  refine st_istore_n (L2 := [iV x0, iV 2]) (pc := 1) hC dX3_leastFactor_1 (Nat.le_of_ble_eq_true rfl) rfl ?_
  exact h
theorem bX3_leastFactor_2 {C : Nat → List Vv → Sg → Rs → Sg → Prop} {X : Nat → List Vv → List Vv → Sg → Prop} {Xr : List Vv → Sg → Prop} {Xt : Nat → Sg → Prop} (hC : Clo C 3 cX3_leastFactor (some .int) X Xr Xt) {x0 x1 : Int} {σ : Sg} (h : if (31622 : Int) < x1 then (Xr [iV x0] σ) else (if x0 < (w32 (x1 * x1)) then (Xr [iV x0] σ) else (x1 ≠ 0 ∧ (if (x0.tmod x1) = 0 then (Xr [iV x1] σ) else (X 2 [iV x0, iV (w32 (x1 + 1))] [] σ))))) : X 2 [iV x0, iV x1] [] σ := by
  refine st_iload_n (pc := 2) hC dX3_leastFactor_2 rfl ?_
  refine st_sipush (pc := 3) hC dX3_leastFactor_3 (by decide) ?_
  refine st_icmp_gt (tg := 30) (pc := 6) hC dX3_leastFactor_6 (by decide) (ite_im h (fun h => ?_) (fun h => ?_))
  · refine st_iload_n (pc := 30) hC dX3_leastFactor_30 rfl ?_
    exact st_ireturn (pc := 31) hC dX3_leastFactor_31 trivial h
  · refine st_iload_n (pc := 9) hC dX3_leastFactor_9 rfl ?_
    refine st_iload_n (pc := 10) hC dX3_leastFactor_10 rfl ?_
    refine st_imul (pc := 11) hC dX3_leastFactor_11 ?_
    refine st_iload_n (pc := 12) hC dX3_leastFactor_12 rfl ?_
    refine st_icmp_gt (tg := 30) (pc := 13) hC dX3_leastFactor_13 (by decide) (ite_im h (fun h => ?_) (fun h => ?_))
    · refine st_iload_n (pc := 30) hC dX3_leastFactor_30 rfl ?_
      exact st_ireturn (pc := 31) hC dX3_leastFactor_31 trivial h
    · refine st_iload_n (pc := 16) hC dX3_leastFactor_16 rfl ?_
      refine st_iload_n (pc := 17) hC dX3_leastFactor_17 rfl ?_
      obtain ⟨h0, h⟩ := h
      refine st_irem (pc := 18) hC dX3_leastFactor_18 h0 ?_
      refine st_if_ne (tg := 24) (pc := 19) hC dX3_leastFactor_19 (by decide) (ite_im h (fun h => ?_) (fun h => ?_))
      · refine st_iload_n (pc := 22) hC dX3_leastFactor_22 rfl ?_
        exact st_ireturn (pc := 23) hC dX3_leastFactor_23 trivial h
      · refine st_iinc (L2 := [iV x0, iV (w32 (x1 + 1))]) (pc := 24) hC dX3_leastFactor_24 rfl (Nat.le_of_ble_eq_true rfl) rfl ?_
        refine st_goto (tg := 2) (pc := 27) hC dX3_leastFactor_27 (by decide) ?_
        exact h
theorem bX3_rootAbove_0 {C : Nat → List Vv → Sg → Rs → Sg → Prop} {X : Nat → List Vv → List Vv → Sg → Prop} {Xr : List Vv → Sg → Prop} {Xt : Nat → Sg → Prop} (hC : Clo C 3 cX3_rootAbove (some .int) X Xr Xt) {x0 : Int} {σ : Sg} (h : X 2 [iV x0, iV 1] [] σ) : X 0 [iV x0, uV] [] σ := by
  refine st_iconst (pc := 0) hC dX3_rootAbove_0 (by decide) ?_
  refine st_istore_n (L2 := [iV x0, iV 1]) (pc := 1) hC dX3_rootAbove_1 (Nat.le_of_ble_eq_true rfl) rfl ?_
  exact h
theorem bX3_rootAbove_2 {C : Nat → List Vv → Sg → Rs → Sg → Prop} {X : Nat → List Vv → List Vv → Sg → Prop} {Xr : List Vv → Sg → Prop} {Xt : Nat → Sg → Prop} (hC : Clo C 3 cX3_rootAbove (some .int) X Xr Xt) {x0 x1 : Int} {σ : Sg} (h : if x1 < 1000 then (if (w32 (x1 * x1)) < x0 then (X 2 [iV x0, iV (w32 (x1 + 1))] [] σ) else (Xr [iV x1] σ)) else (Xr [iV x1] σ)) : X 2 [iV x0, iV x1] [] σ := by
  refine st_iload_n (pc := 2) hC dX3_rootAbove_2 rfl ?_
  refine st_sipush (pc := 3) hC dX3_rootAbove_3 (by decide) ?_
  refine st_icmp_ge (tg := 22) (pc := 6) hC dX3_rootAbove_6 (by decide) (ite_im h (fun h => ?_) (fun h => ?_))
  · refine st_iload_n (pc := 9) hC dX3_rootAbove_9 rfl ?_
    refine st_iload_n (pc := 10) hC dX3_rootAbove_10 rfl ?_
    refine st_imul (pc := 11) hC dX3_rootAbove_11 ?_
    refine st_iload_n (pc := 12) hC dX3_rootAbove_12 rfl ?_
    refine st_icmp_ge (tg := 22) (pc := 13) hC dX3_rootAbove_13 (by decide) (ite_im h (fun h => ?_) (fun h => ?_))
    · refine st_iinc (L2 := [iV x0, iV (w32 (x1 + 1))]) (pc := 16) hC dX3_rootAbove_16 rfl (Nat.le_of_ble_eq_true rfl) rfl ?_
      refine st_goto (tg := 2) (pc := 19) hC dX3_rootAbove_19 (by decide) ?_
      exact h
    · refine st_iload_n (pc := 22) hC dX3_rootAbove_22 rfl ?_
      exact st_ireturn (pc := 23) hC dX3_rootAbove_23 trivial h
  · refine st_iload_n (pc := 22) hC dX3_rootAbove_22 rfl ?_
    exact st_ireturn (pc := 23) hC dX3_rootAbove_23 trivial h
theorem bX3_isSmooth_0 {C : Nat → List Vv → Sg → Rs → Sg → Prop} {X : Nat → List Vv → List Vv → Sg → Prop} {Xr : List Vv → Sg → Prop} {Xt : Nat → Sg → Prop} (hC : Clo C 3 cX3_isSmooth (some .boolean) X Xr Xt) {x0 x1 : Int} {σ : Sg} (h : X 4 [iV x0, iV x1, iV x0, iV 0, uV] [] σ) : X 0 [iV x0, iV x1, uV, uV, uV] [] σ := by
  refine st_iload_n (pc := 0) hC dX3_isSmooth_0 rfl ?_
  refine st_istore_n (L2 := [iV x0, iV x1, iV x0, uV, uV]) (pc := 1) hC dX3_isSmooth_1 (Nat.le_of_ble_eq_true rfl) rfl ?_
  refine st_iconst (pc := 2) hC dX3_isSmooth_2 (by decide) ?_
  refine st_istore_n (L2 := [iV x0, iV x1, iV x0, iV 0, uV]) (pc := 3) hC dX3_isSmooth_3 (Nat.le_of_ble_eq_true rfl) rfl ?_
  exact h
theorem bX3_isSmooth_4 {C : Nat → List Vv → Sg → Rs → Sg → Prop} {X : Nat → List Vv → List Vv → Sg → Prop} {Xr : List Vv → Sg → Prop} {Xt : Nat → Sg → Prop} (hC : Clo C 3 cX3_isSmooth (some .boolean) X Xr Xt) {x0 x1 x2 x3 : Int} {σ : Sg} (h : if x3 < 25 then ((0 ≤ x3 ∧ x3 < 25) ∧ (if x1 < (prm (x3).toNat) then (if x2 = 1 then (Xr [iV 1] σ) else (Xr [iV 0] σ)) else (if (1 : Int) < x2 then (X 29 [iV x0, iV x1, iV x2, iV x3, iV 0] [] σ) else (if x2 = 1 then (Xr [iV 1] σ) else (Xr [iV 0] σ))))) else (if x2 = 1 then (Xr [iV 1] σ) else (Xr [iV 0] σ))) : X 4 [iV x0, iV x1, iV x2, iV x3, uV] [] σ := by
  refine st_iload_n (pc := 4) hC dX3_isSmooth_4 rfl ?_
  refine st_getsP (pc := 5) hC dX3_isSmooth_5 rfl ?_
  refine st_alen (n := 25) (pc := 8) hC dX3_isSmooth_8 (by decide) ?_
  refine st_icmp_ge (tg := 66) (pc := 9) hC dX3_isSmooth_9 (by decide) (ite_im h (fun h => ?_) (fun h => ?_))
  · refine st_getsP (pc := 12) hC dX3_isSmooth_12 rfl ?_
    refine st_iload_n (pc := 15) hC dX3_isSmooth_15 rfl ?_
    obtain ⟨hb, h⟩ := h
    refine st_ialdP (pc := 16) hC dX3_isSmooth_16 hb ?_
    refine st_iload_n (pc := 17) hC dX3_isSmooth_17 rfl ?_
    refine st_icmp_gt (tg := 66) (pc := 18) hC dX3_isSmooth_18 (by decide) (ite_im h (fun h => ?_) (fun h => ?_))
    · refine st_iload_n (pc := 66) hC dX3_isSmooth_66 rfl ?_
      refine st_iconst (pc := 67) hC dX3_isSmooth_67 (by decide) ?_
      refine st_icmp_ne (tg := 75) (pc := 68) hC dX3_isSmooth_68 (by decide) (ite_im h (fun h => ?_) (fun h => ?_))
      · refine st_iconst (pc := 71) hC dX3_isSmooth_71 (by decide) ?_
        refine st_goto (tg := 76) (pc := 72) hC dX3_isSmooth_72 (by decide) ?_
        exact st_ireturn (pc := 76) hC dX3_isSmooth_76 (Or.inr rfl) h
      · refine st_iconst (pc := 75) hC dX3_isSmooth_75 (by decide) ?_
        exact st_ireturn (pc := 76) hC dX3_isSmooth_76 (Or.inl rfl) h
    · refine st_iload_n (pc := 21) hC dX3_isSmooth_21 rfl ?_
      refine st_iconst (pc := 22) hC dX3_isSmooth_22 (by decide) ?_
      refine st_icmp_le (tg := 66) (pc := 23) hC dX3_isSmooth_23 (by decide) (ite_im h (fun h => ?_) (fun h => ?_))
      · refine st_iconst (pc := 26) hC dX3_isSmooth_26 (by decide) ?_
        refine st_istore (L2 := [iV x0, iV x1, iV x2, iV x3, iV 0]) (pc := 27) hC dX3_isSmooth_27 (Nat.le_of_ble_eq_true rfl) rfl ?_
        exact h
      · refine st_iload_n (pc := 66) hC dX3_isSmooth_66 rfl ?_
        refine st_iconst (pc := 67) hC dX3_isSmooth_67 (by decide) ?_
        refine st_icmp_ne (tg := 75) (pc := 68) hC dX3_isSmooth_68 (by decide) (ite_im h (fun h => ?_) (fun h => ?_))
        · refine st_iconst (pc := 71) hC dX3_isSmooth_71 (by decide) ?_
          refine st_goto (tg := 76) (pc := 72) hC dX3_isSmooth_72 (by decide) ?_
          exact st_ireturn (pc := 76) hC dX3_isSmooth_76 (Or.inr rfl) h
        · refine st_iconst (pc := 75) hC dX3_isSmooth_75 (by decide) ?_
          exact st_ireturn (pc := 76) hC dX3_isSmooth_76 (Or.inl rfl) h
  · refine st_iload_n (pc := 66) hC dX3_isSmooth_66 rfl ?_
    refine st_iconst (pc := 67) hC dX3_isSmooth_67 (by decide) ?_
    refine st_icmp_ne (tg := 75) (pc := 68) hC dX3_isSmooth_68 (by decide) (ite_im h (fun h => ?_) (fun h => ?_))
    · refine st_iconst (pc := 71) hC dX3_isSmooth_71 (by decide) ?_
      refine st_goto (tg := 76) (pc := 72) hC dX3_isSmooth_72 (by decide) ?_
      exact st_ireturn (pc := 76) hC dX3_isSmooth_76 (Or.inr rfl) h
    · refine st_iconst (pc := 75) hC dX3_isSmooth_75 (by decide) ?_
      exact st_ireturn (pc := 76) hC dX3_isSmooth_76 (Or.inl rfl) h
theorem bX3_isSmooth_29 {C : Nat → List Vv → Sg → Rs → Sg → Prop} {X : Nat → List Vv → List Vv → Sg → Prop} {Xr : List Vv → Sg → Prop} {Xt : Nat → Sg → Prop} (hC : Clo C 3 cX3_isSmooth (some .boolean) X Xr Xt) {x0 x1 x2 x3 x4 : Int} {σ : Sg} (h : if x4 < 32 then ((0 ≤ x3 ∧ x3 < 25) ∧ ((prm (x3).toNat) ≠ 0 ∧ (if (x2.tmod (prm (x3).toNat)) = 0 then ((0 ≤ x3 ∧ x3 < 25) ∧ ((prm (x3).toNat) ≠ 0 ∧ (X 29 [iV x0, iV x1, iV (w32 (x2.tdiv (prm (x3).toNat))), iV x3, iV (w32 (x4 + 1))] [] σ))) else (X 4 [iV x0, iV x1, iV x2, iV (w32 (x3 + 1)), uV] [] σ)))) else (X 4 [iV x0, iV x1, iV x2, iV (w32 (x3 + 1)), uV] [] σ)) : X 29 [iV x0, iV x1, iV x2, iV x3, iV x4] [] σ := by
  refine st_iload (pc := 29) hC dX3_isSmooth_29 rfl ?_
  refine st_bipush (pc := 31) hC dX3_isSmooth_31 (by decide) ?_
  refine st_icmp_ge (tg := 60) (pc := 33) hC dX3_isSmooth_33 (by decide) (ite_im h (fun h => ?_) (fun h => ?_))
  · refine st_iload_n (pc := 36) hC dX3_isSmooth_36 rfl ?_
    refine st_getsP (pc := 37) hC dX3_isSmooth_37 rfl ?_
    refine st_iload_n (pc := 40) hC dX3_isSmooth_40 rfl ?_
    obtain ⟨hb, h⟩ := h
    refine st_ialdP (pc := 41) hC dX3_isSmooth_41 hb ?_
    obtain ⟨h0, h⟩ := h
    refine st_irem (pc := 42) hC dX3_isSmooth_42 h0 ?_
    refine st_if_ne (tg := 60) (pc := 43) hC dX3_isSmooth_43 (by decide) (ite_im h (fun h => ?_) (fun h => ?_))
    · refine st_iload_n (pc := 46) hC dX3_isSmooth_46 rfl ?_
      refine st_getsP (pc := 47) hC dX3_isSmooth_47 rfl ?_
      refine st_iload_n (pc := 50) hC dX3_isSmooth_50 rfl ?_
      obtain ⟨hb, h⟩ := h
      refine st_ialdP (pc := 51) hC dX3_isSmooth_51 hb ?_
      obtain ⟨h0, h⟩ := h
      refine st_idiv (pc := 52) hC dX3_isSmooth_52 h0 ?_
      refine st_istore_n (L2 := [iV x0, iV x1, iV (w32 (x2.tdiv (prm (x3).toNat))), iV x3, iV x4]) (pc := 53) hC dX3_isSmooth_53 (Nat.le_of_ble_eq_true rfl) rfl ?_
      refine st_iinc (L2 := [iV x0, iV x1, iV (w32 (x2.tdiv (prm (x3).toNat))), iV x3, iV (w32 (x4 + 1))]) (pc := 54) hC dX3_isSmooth_54 rfl (Nat.le_of_ble_eq_true rfl) rfl ?_
      refine st_goto (tg := 29) (pc := 57) hC dX3_isSmooth_57 (by decide) ?_
      exact h
    · refine st_iinc (L2 := [iV x0, iV x1, iV x2, iV (w32 (x3 + 1)), iV x4]) (pc := 60) hC dX3_isSmooth_60 rfl (Nat.le_of_ble_eq_true rfl) rfl ?_
      refine st_goto (tg := 4) (pc := 63) hC dX3_isSmooth_63 (by decide) ?_
      exact st_fg (L2 := [iV x0, iV x1, iV x2, iV (w32 (x3 + 1)), uV]) hC ⟨Or.inl rfl, Or.inl rfl, Or.inl rfl, Or.inl rfl, Or.inr rfl, trivial⟩ h
  · refine st_iinc (L2 := [iV x0, iV x1, iV x2, iV (w32 (x3 + 1)), iV x4]) (pc := 60) hC dX3_isSmooth_60 rfl (Nat.le_of_ble_eq_true rfl) rfl ?_
    refine st_goto (tg := 4) (pc := 63) hC dX3_isSmooth_63 (by decide) ?_
    exact st_fg (L2 := [iV x0, iV x1, iV x2, iV (w32 (x3 + 1)), uV]) hC ⟨Or.inl rfl, Or.inl rfl, Or.inl rfl, Or.inl rfl, Or.inr rfl, trivial⟩ h
