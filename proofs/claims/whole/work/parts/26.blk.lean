theorem bX6_begin_0 {C : Nat → List Vv → Sg → Rs → Sg → Prop} {X : Nat → List Vv → List Vv → Sg → Prop} {Xr : List Vv → Sg → Prop} {Xt : Nat → Sg → Prop} (hC : Clo C 6 cX6_begin none X Xr Xt) {x2 : Int} {t1 : Nat} {σ : Sg} (h : ∃ σ1 : Sg, C MJ7_fill_d0a16 [rV 2000380 59, lV 0] σ (.inl []) σ1 ∧ (X 33 [rV 15 57, rV 17 t1, iV x2, iV 0, uV] [] (upS (upS (upS σ1 57 0 0) 57 1 0) 57 2 (min ((upS (upS σ1 57 0 0) 57 1 0) t1 3) 6)))) : X 0 [rV 15 57, rV 17 t1, iV x2, uV, uV] [] σ := by
  refine st_aload_n (pc := 0) hC dX6_begin_0 rfl (by decide) (by decide) ?_
  refine st_getf (ci := 5) (f := 4) (v := rV 2000380 59) (pc := 1) hC dX6_begin_1 fl_6_25 rfl rfl ?_
  refine st_lconst0 (pc := 4) hC dX6_begin_4 ?_
  obtain ⟨σ1, hq, h⟩ := h
  refine st_invS (As := [rV 2000380 59, lV 0]) (v := []) (S := []) (pc := 5) hC dX6_begin_5 cl_6_38 rfl rfl (Nat.le_of_ble_eq_true rfl) hq ?_
  refine st_aload_n (pc := 8) hC dX6_begin_8 rfl (by decide) (by decide) ?_
  refine st_iconst (pc := 9) hC dX6_begin_9 (by decide) ?_
  refine st_putfI (ci := 5) (f := 0) (pc := 10) hC dX6_begin_10 fl_6_9 rfl rfl ?_
  refine st_aload_n (pc := 13) hC dX6_begin_13 rfl (by decide) (by decide) ?_
  refine st_iconst (pc := 14) hC dX6_begin_14 (by decide) ?_
  refine st_putfI (ci := 5) (f := 1) (pc := 15) hC dX6_begin_15 fl_6_15 rfl rfl ?_
  refine st_aload_n (pc := 18) hC dX6_begin_18 rfl (by decide) (by decide) ?_
  refine st_aload_n (pc := 19) hC dX6_begin_19 rfl (by decide) (by decide) ?_
  refine st_getf (ci := 7) (f := 3) (v := iV ((upS (upS σ1 57 0 0) 57 1 0) t1 3)) (pc := 20) hC dX6_begin_20 fl_6_44 rfl rfl ?_
  refine st_bipush (pc := 23) hC dX6_begin_23 (by decide) ?_
  refine st_mmin (pc := 25) hC dX6_begin_25 rfl (Nat.le_of_ble_eq_true rfl) ?_
  refine st_putfI (ci := 5) (f := 2) (pc := 28) hC dX6_begin_28 fl_6_18 rfl rfl ?_
  refine st_iconst (pc := 31) hC dX6_begin_31 (by decide) ?_
  refine st_istore_n (L2 := [rV 15 57, rV 17 t1, iV x2, iV 0, uV]) (pc := 32) hC dX6_begin_32 (Nat.le_of_ble_eq_true rfl) rfl ?_
  exact h
theorem bX6_begin_33 {C : Nat → List Vv → Sg → Rs → Sg → Prop} {X : Nat → List Vv → List Vv → Sg → Prop} {Xr : List Vv → Sg → Prop} {Xt : Nat → Sg → Prop} (hC : Clo C 6 cX6_begin none X Xr Xt) {x2 x3 : Int} {t1 : Nat} {σ : Sg} (h : if x3 < (σ 57 2) then ((0 ≤ x3 ∧ x3 < 6) ∧ ((0 ≤ x3 ∧ x3 < 6) ∧ (X 58 [rV 15 57, rV 17 t1, iV x2, iV x3, iV 0] [] (upS (upS σ 60 (x3).toNat 0) 61 (x3).toNat 0)))) else (X 126 [rV 15 57, rV 17 t1, iV x2, iV 0, iV 0] [] σ)) : X 33 [rV 15 57, rV 17 t1, iV x2, iV x3, uV] [] σ := by
  refine st_iload_n (pc := 33) hC dX6_begin_33 rfl ?_
  refine st_aload_n (pc := 34) hC dX6_begin_34 rfl (by decide) (by decide) ?_
  refine st_getf (ci := 5) (f := 2) (v := iV (σ 57 2)) (pc := 35) hC dX6_begin_35 fl_6_18 rfl rfl ?_
  refine st_icmp_ge (tg := 121) (pc := 38) hC dX6_begin_38 (by decide) (ite_im h (fun h => ?_) (fun h => ?_))
  · refine st_aload_n (pc := 41) hC dX6_begin_41 rfl (by decide) (by decide) ?_
    refine st_getf (ci := 5) (f := 5) (v := rV 1000006 60) (pc := 42) hC dX6_begin_42 fl_6_29 rfl rfl ?_
    refine st_iload_n (pc := 45) hC dX6_begin_45 rfl ?_
    refine st_iconst (pc := 46) hC dX6_begin_46 (by decide) ?_
    obtain ⟨hb, h⟩ := h
    refine st_iast (n := 6) (pc := 47) hC dX6_begin_47 (by decide) hb ?_
    refine st_aload_n (pc := 48) hC dX6_begin_48 rfl (by decide) (by decide) ?_
    refine st_getf (ci := 5) (f := 6) (v := rV 1000006 61) (pc := 49) hC dX6_begin_49 fl_6_32 rfl rfl ?_
    refine st_iload_n (pc := 52) hC dX6_begin_52 rfl ?_
    refine st_iconst (pc := 53) hC dX6_begin_53 (by decide) ?_
    obtain ⟨hb, h⟩ := h
    refine st_iast (n := 6) (pc := 54) hC dX6_begin_54 (by decide) hb ?_
    refine st_iconst (pc := 55) hC dX6_begin_55 (by decide) ?_
    refine st_istore (L2 := [rV 15 57, rV 17 t1, iV x2, iV x3, iV 0]) (pc := 56) hC dX6_begin_56 (Nat.le_of_ble_eq_true rfl) rfl ?_
    exact h
  · refine st_iconst (pc := 121) hC dX6_begin_121 (by decide) ?_
    refine st_istore_n (L2 := [rV 15 57, rV 17 t1, iV x2, iV 0, uV]) (pc := 122) hC dX6_begin_122 (Nat.le_of_ble_eq_true rfl) rfl ?_
    refine st_iconst (pc := 123) hC dX6_begin_123 (by decide) ?_
    refine st_istore (L2 := [rV 15 57, rV 17 t1, iV x2, iV 0, iV 0]) (pc := 124) hC dX6_begin_124 (Nat.le_of_ble_eq_true rfl) rfl ?_
    exact h
theorem bX6_begin_58 {C : Nat → List Vv → Sg → Rs → Sg → Prop} {X : Nat → List Vv → List Vv → Sg → Prop} {Xr : List Vv → Sg → Prop} {Xt : Nat → Sg → Prop} (hC : Clo C 6 cX6_begin none X Xr Xt) {x2 x3 x4 : Int} {t1 : Nat} {σ : Sg} (h : if x4 < 8 then ((0 ≤ x3 ∧ x3 < 6) ∧ (∃ v1 : Int, C MX8_onSide [rV 17 t1, iV x3, iV 0, iV x4] σ (.inl [iV v1]) σ ∧ ((0 ≤ x3 ∧ x3 < 6) ∧ ((0 ≤ x3 ∧ x3 < 6) ∧ (∃ v2 : Int, C MX8_onSide [rV 17 t1, iV x3, iV 1, iV x4] (upS σ 60 (x3).toNat (iorI (σ 60 (x3).toNat) (ishlI v1 (w32 (4 * x4))))) (.inl [iV v2]) (upS σ 60 (x3).toNat (iorI (σ 60 (x3).toNat) (ishlI v1 (w32 (4 * x4))))) ∧ ((0 ≤ x3 ∧ x3 < 6) ∧ (X 58 [rV 15 57, rV 17 t1, iV x2, iV x3, iV (w32 (x4 + 1))] [] (upS (upS σ 60 (x3).toNat (iorI (σ 60 (x3).toNat) (ishlI v1 (w32 (4 * x4))))) 61 (x3).toNat (iorI ((upS σ 60 (x3).toNat (iorI (σ 60 (x3).toNat) (ishlI v1 (w32 (4 * x4))))) 61 (x3).toNat) (ishlI v2 (w32 (4 * x4)))))))))))) else (X 33 [rV 15 57, rV 17 t1, iV x2, iV (w32 (x3 + 1)), uV] [] σ)) : X 58 [rV 15 57, rV 17 t1, iV x2, iV x3, iV x4] [] σ := by
  refine st_iload (pc := 58) hC dX6_begin_58 rfl ?_
  refine st_bipush (pc := 60) hC dX6_begin_60 (by decide) ?_
  refine st_icmp_ge (tg := 115) (pc := 62) hC dX6_begin_62 (by decide) (ite_im h (fun h => ?_) (fun h => ?_))
  · refine st_aload_n (pc := 65) hC dX6_begin_65 rfl (by decide) (by decide) ?_
    refine st_getf (ci := 5) (f := 5) (v := rV 1000006 60) (pc := 66) hC dX6_begin_66 fl_6_29 rfl rfl ?_
    refine st_iload_n (pc := 69) hC dX6_begin_69 rfl ?_
    refine st_dup2IR (pc := 70) hC dX6_begin_70 (by decide) (by decide) ?_
    obtain ⟨hb, h⟩ := h
    refine st_iald (n := 6) (pc := 71) hC dX6_begin_71 (by decide) hb ?_
    refine st_aload_n (pc := 72) hC dX6_begin_72 rfl (by decide) (by decide) ?_
    refine st_iload_n (pc := 73) hC dX6_begin_73 rfl ?_
    refine st_iconst (pc := 74) hC dX6_begin_74 (by decide) ?_
    refine st_iload (pc := 75) hC dX6_begin_75 rfl ?_
    obtain ⟨v1, hq, h⟩ := h
    refine st_invV (As := [iV x3, iV 0, iV x4]) (v := [iV v1]) (S := [iV (σ 60 (x3).toNat), iV x3, rV 1000006 60]) (pc := 77) hC dX6_begin_77 cl_6_53 rfl rfl (Nat.le_of_ble_eq_true rfl) cr_X8_onSide hq ?_
    refine st_iconst (pc := 80) hC dX6_begin_80 (by decide) ?_
    refine st_iload (pc := 81) hC dX6_begin_81 rfl ?_
    refine st_imul (pc := 83) hC dX6_begin_83 ?_
    refine st_ishl (pc := 84) hC dX6_begin_84 ?_
    refine st_ior (pc := 85) hC dX6_begin_85 ?_
    obtain ⟨hb, h⟩ := h
    refine st_iast (n := 6) (pc := 86) hC dX6_begin_86 (by decide) hb ?_
    refine st_aload_n (pc := 87) hC dX6_begin_87 rfl (by decide) (by decide) ?_
    refine st_getf (ci := 5) (f := 6) (v := rV 1000006 61) (pc := 88) hC dX6_begin_88 fl_6_32 rfl rfl ?_
    refine st_iload_n (pc := 91) hC dX6_begin_91 rfl ?_
    refine st_dup2IR (pc := 92) hC dX6_begin_92 (by decide) (by decide) ?_
    obtain ⟨hb, h⟩ := h
    refine st_iald (n := 6) (pc := 93) hC dX6_begin_93 (by decide) hb ?_
    refine st_aload_n (pc := 94) hC dX6_begin_94 rfl (by decide) (by decide) ?_
    refine st_iload_n (pc := 95) hC dX6_begin_95 rfl ?_
    refine st_iconst (pc := 96) hC dX6_begin_96 (by decide) ?_
    refine st_iload (pc := 97) hC dX6_begin_97 rfl ?_
    obtain ⟨v2, hq, h⟩ := h
    refine st_invV (As := [iV x3, iV 1, iV x4]) (v := [iV v2]) (S := [iV ((upS σ 60 (x3).toNat (iorI (σ 60 (x3).toNat) (ishlI v1 (w32 (4 * x4))))) 61 (x3).toNat), iV x3, rV 1000006 61]) (pc := 99) hC dX6_begin_99 cl_6_53 rfl rfl (Nat.le_of_ble_eq_true rfl) cr_X8_onSide hq ?_
    refine st_iconst (pc := 102) hC dX6_begin_102 (by decide) ?_
    refine st_iload (pc := 103) hC dX6_begin_103 rfl ?_
    refine st_imul (pc := 105) hC dX6_begin_105 ?_
    refine st_ishl (pc := 106) hC dX6_begin_106 ?_
    refine st_ior (pc := 107) hC dX6_begin_107 ?_
    obtain ⟨hb, h⟩ := h
    refine st_iast (n := 6) (pc := 108) hC dX6_begin_108 (by decide) hb ?_
    refine st_iinc (L2 := [rV 15 57, rV 17 t1, iV x2, iV x3, iV (w32 (x4 + 1))]) (pc := 109) hC dX6_begin_109 rfl (Nat.le_of_ble_eq_true rfl) rfl ?_
    refine st_goto (tg := 58) (pc := 112) hC dX6_begin_112 (by decide) ?_
    exact h
  · refine st_iinc (L2 := [rV 15 57, rV 17 t1, iV x2, iV (w32 (x3 + 1)), iV x4]) (pc := 115) hC dX6_begin_115 rfl (Nat.le_of_ble_eq_true rfl) rfl ?_
    refine st_goto (tg := 33) (pc := 118) hC dX6_begin_118 (by decide) ?_
    exact st_fg (L2 := [rV 15 57, rV 17 t1, iV x2, iV (w32 (x3 + 1)), uV]) hC ⟨Or.inl rfl, Or.inl rfl, Or.inl rfl, Or.inl rfl, Or.inr rfl, trivial⟩ h
theorem bX6_begin_126 {C : Nat → List Vv → Sg → Rs → Sg → Prop} {X : Nat → List Vv → List Vv → Sg → Prop} {Xr : List Vv → Sg → Prop} {Xt : Nat → Sg → Prop} (hC : Clo C 6 cX6_begin none X Xr Xt) {x2 x3 x4 : Int} {t1 : Nat} {σ : Sg} (h : if x4 < 8 then (∃ v1 : Int, C MX8_held [rV 17 t1, iV x2, iV x4] σ (.inl [iV v1]) σ ∧ (X 126 [rV 15 57, rV 17 t1, iV x2, iV (iorI x3 (ishlI v1 (w32 (4 * x4)))), iV (w32 (x4 + 1))] [] σ)) else (∃ σ2 : Sg, C MX6_meet [rV 15 57, iV x3] σ (.inl []) σ2 ∧ (Xr [] σ2))) : X 126 [rV 15 57, rV 17 t1, iV x2, iV x3, iV x4] [] σ := by
  refine st_iload (pc := 126) hC dX6_begin_126 rfl ?_
  refine st_bipush (pc := 128) hC dX6_begin_128 (by decide) ?_
  refine st_icmp_ge (tg := 154) (pc := 130) hC dX6_begin_130 (by decide) (ite_im h (fun h => ?_) (fun h => ?_))
  · refine st_iload_n (pc := 133) hC dX6_begin_133 rfl ?_
    refine st_aload_n (pc := 134) hC dX6_begin_134 rfl (by decide) (by decide) ?_
    refine st_iload_n (pc := 135) hC dX6_begin_135 rfl ?_
    refine st_iload (pc := 136) hC dX6_begin_136 rfl ?_
    obtain ⟨v1, hq, h⟩ := h
    refine st_invV (As := [iV x2, iV x4]) (v := [iV v1]) (S := [iV x3]) (pc := 138) hC dX6_begin_138 cl_6_57 rfl rfl (Nat.le_of_ble_eq_true rfl) cr_X8_held hq ?_
    refine st_iconst (pc := 141) hC dX6_begin_141 (by decide) ?_
    refine st_iload (pc := 142) hC dX6_begin_142 rfl ?_
    refine st_imul (pc := 144) hC dX6_begin_144 ?_
    refine st_ishl (pc := 145) hC dX6_begin_145 ?_
    refine st_ior (pc := 146) hC dX6_begin_146 ?_
    refine st_istore_n (L2 := [rV 15 57, rV 17 t1, iV x2, iV (iorI x3 (ishlI v1 (w32 (4 * x4)))), iV x4]) (pc := 147) hC dX6_begin_147 (Nat.le_of_ble_eq_true rfl) rfl ?_
    refine st_iinc (L2 := [rV 15 57, rV 17 t1, iV x2, iV (iorI x3 (ishlI v1 (w32 (4 * x4)))), iV (w32 (x4 + 1))]) (pc := 148) hC dX6_begin_148 rfl (Nat.le_of_ble_eq_true rfl) rfl ?_
    refine st_goto (tg := 126) (pc := 151) hC dX6_begin_151 (by decide) ?_
    exact h
  · refine st_aload_n (pc := 154) hC dX6_begin_154 rfl (by decide) (by decide) ?_
    refine st_iload_n (pc := 155) hC dX6_begin_155 rfl ?_
    obtain ⟨σ2, hq, h⟩ := h
    refine st_invV (As := [iV x3]) (v := []) (S := []) (pc := 156) hC dX6_begin_156 cl_6_60 rfl rfl (Nat.le_of_ble_eq_true rfl) cr_X6_meet hq ?_
    exact st_return (pc := 159) hC dX6_begin_159 h
theorem bX6_hasNew_0 {C : Nat → List Vv → Sg → Rs → Sg → Prop} {X : Nat → List Vv → List Vv → Sg → Prop} {Xr : List Vv → Sg → Prop} {Xt : Nat → Sg → Prop} (hC : Clo C 6 cX6_hasNew (some .boolean) X Xr Xt) {σ : Sg} (h : if (σ 57 1) < (σ 57 0) then (Xr [iV 1] σ) else (Xr [iV 0] σ)) : X 0 [rV 15 57] [] σ := by
  refine st_aload_n (pc := 0) hC dX6_hasNew_0 rfl (by decide) (by decide) ?_
  refine st_getf (ci := 5) (f := 1) (v := iV (σ 57 1)) (pc := 1) hC dX6_hasNew_1 fl_6_15 rfl rfl ?_
  refine st_aload_n (pc := 4) hC dX6_hasNew_4 rfl (by decide) (by decide) ?_
  refine st_getf (ci := 5) (f := 0) (v := iV (σ 57 0)) (pc := 5) hC dX6_hasNew_5 fl_6_9 rfl rfl ?_
  refine st_icmp_ge (tg := 15) (pc := 8) hC dX6_hasNew_8 (by decide) (ite_im h (fun h => ?_) (fun h => ?_))
  · refine st_iconst (pc := 11) hC dX6_hasNew_11 (by decide) ?_
    refine st_goto (tg := 16) (pc := 12) hC dX6_hasNew_12 (by decide) ?_
    exact st_ireturn (pc := 16) hC dX6_hasNew_16 (Or.inr rfl) h
  · refine st_iconst (pc := 15) hC dX6_hasNew_15 (by decide) ?_
    exact st_ireturn (pc := 16) hC dX6_hasNew_16 (Or.inl rfl) h
theorem bX6_step_0 {C : Nat → List Vv → Sg → Rs → Sg → Prop} {X : Nat → List Vv → List Vv → Sg → Prop} {Xr : List Vv → Sg → Prop} {Xt : Nat → Sg → Prop} (hC : Clo C 6 cX6_step none X Xr Xt) {σ : Sg} (h : X 10 [rV 15 57, iV (σ 57 0), iV (σ 57 1), uV] [] σ) : X 0 [rV 15 57, uV, uV, uV] [] σ := by
  refine st_aload_n (pc := 0) hC dX6_step_0 rfl (by decide) (by decide) ?_
  refine st_getf (ci := 5) (f := 0) (v := iV (σ 57 0)) (pc := 1) hC dX6_step_1 fl_6_9 rfl rfl ?_
  refine st_istore_n (L2 := [rV 15 57, iV (σ 57 0), uV, uV]) (pc := 4) hC dX6_step_4 (Nat.le_of_ble_eq_true rfl) rfl ?_
  refine st_aload_n (pc := 5) hC dX6_step_5 rfl (by decide) (by decide) ?_
  refine st_getf (ci := 5) (f := 1) (v := iV (σ 57 1)) (pc := 6) hC dX6_step_6 fl_6_15 rfl rfl ?_
  refine st_istore_n (L2 := [rV 15 57, iV (σ 57 0), iV (σ 57 1), uV]) (pc := 9) hC dX6_step_9 (Nat.le_of_ble_eq_true rfl) rfl ?_
  exact h
theorem bX6_step_10 {C : Nat → List Vv → Sg → Rs → Sg → Prop} {X : Nat → List Vv → List Vv → Sg → Prop} {Xr : List Vv → Sg → Prop} {Xt : Nat → Sg → Prop} (hC : Clo C 6 cX6_step none X Xr Xt) {x1 x2 : Int} {σ : Sg} (h : if x2 < x1 then (if x2 < 24310 then (X 24 [rV 15 57, iV x1, iV x2, iV 0] [] σ) else (Xr [] (upS σ 57 1 x1))) else (Xr [] (upS σ 57 1 x1))) : X 10 [rV 15 57, iV x1, iV x2, uV] [] σ := by
  refine st_iload_n (pc := 10) hC dX6_step_10 rfl ?_
  refine st_iload_n (pc := 11) hC dX6_step_11 rfl ?_
  refine st_icmp_ge (tg := 72) (pc := 12) hC dX6_step_12 (by decide) (ite_im h (fun h => ?_) (fun h => ?_))
  · refine st_iload_n (pc := 15) hC dX6_step_15 rfl ?_
    refine st_sipush (pc := 16) hC dX6_step_16 (by decide) ?_
    refine st_icmp_ge (tg := 72) (pc := 19) hC dX6_step_19 (by decide) (ite_im h (fun h => ?_) (fun h => ?_))
    · refine st_iconst (pc := 22) hC dX6_step_22 (by decide) ?_
      refine st_istore_n (L2 := [rV 15 57, iV x1, iV x2, iV 0]) (pc := 23) hC dX6_step_23 (Nat.le_of_ble_eq_true rfl) rfl ?_
      exact h
    · refine st_aload_n (pc := 72) hC dX6_step_72 rfl (by decide) (by decide) ?_
      refine st_iload_n (pc := 73) hC dX6_step_73 rfl ?_
      refine st_putfI (ci := 5) (f := 1) (pc := 74) hC dX6_step_74 fl_6_15 rfl rfl ?_
      exact st_return (pc := 77) hC dX6_step_77 h
  · refine st_aload_n (pc := 72) hC dX6_step_72 rfl (by decide) (by decide) ?_
    refine st_iload_n (pc := 73) hC dX6_step_73 rfl ?_
    refine st_putfI (ci := 5) (f := 1) (pc := 74) hC dX6_step_74 fl_6_15 rfl rfl ?_
    exact st_return (pc := 77) hC dX6_step_77 h
theorem bX6_step_24 {C : Nat → List Vv → Sg → Rs → Sg → Prop} {X : Nat → List Vv → List Vv → Sg → Prop} {Xr : List Vv → Sg → Prop} {Xt : Nat → Sg → Prop} (hC : Clo C 6 cX6_step none X Xr Xt) {x1 x2 x3 : Int} {σ : Sg} (h : if x3 < (σ 57 2) then (if x3 < 6 then ((0 ≤ x2 ∧ x2 < 24310) ∧ ((0 ≤ x3 ∧ x3 < 6) ∧ ((0 ≤ x3 ∧ x3 < 6) ∧ (∃ σ1 : Sg, C MX6_tryChange [rV 15 57, iV (σ 58 (x2).toNat), iV (σ 60 (x3).toNat), iV (σ 61 (x3).toNat)] σ (.inl []) σ1 ∧ (X 24 [rV 15 57, iV x1, iV x2, iV (w32 (x3 + 1))] [] σ1))))) else (X 10 [rV 15 57, iV x1, iV (w32 (x2 + 1)), uV] [] σ)) else (X 10 [rV 15 57, iV x1, iV (w32 (x2 + 1)), uV] [] σ)) : X 24 [rV 15 57, iV x1, iV x2, iV x3] [] σ := by
  refine st_iload_n (pc := 24) hC dX6_step_24 rfl ?_
  refine st_aload_n (pc := 25) hC dX6_step_25 rfl (by decide) (by decide) ?_
  refine st_getf (ci := 5) (f := 2) (v := iV (σ 57 2)) (pc := 26) hC dX6_step_26 fl_6_18 rfl rfl ?_
  refine st_icmp_ge (tg := 66) (pc := 29) hC dX6_step_29 (by decide) (ite_im h (fun h => ?_) (fun h => ?_))
  · refine st_iload_n (pc := 32) hC dX6_step_32 rfl ?_
    refine st_bipush (pc := 33) hC dX6_step_33 (by decide) ?_
    refine st_icmp_ge (tg := 66) (pc := 35) hC dX6_step_35 (by decide) (ite_im h (fun h => ?_) (fun h => ?_))
    · refine st_aload_n (pc := 38) hC dX6_step_38 rfl (by decide) (by decide) ?_
      refine st_aload_n (pc := 39) hC dX6_step_39 rfl (by decide) (by decide) ?_
      refine st_getf (ci := 5) (f := 3) (v := rV 1024310 58) (pc := 40) hC dX6_step_40 fl_6_21 rfl rfl ?_
      refine st_iload_n (pc := 43) hC dX6_step_43 rfl ?_
      obtain ⟨hb, h⟩ := h
      refine st_iald (n := 24310) (pc := 44) hC dX6_step_44 (by decide) hb ?_
      refine st_aload_n (pc := 45) hC dX6_step_45 rfl (by decide) (by decide) ?_
      refine st_getf (ci := 5) (f := 5) (v := rV 1000006 60) (pc := 46) hC dX6_step_46 fl_6_29 rfl rfl ?_
      refine st_iload_n (pc := 49) hC dX6_step_49 rfl ?_
      obtain ⟨hb, h⟩ := h
      refine st_iald (n := 6) (pc := 50) hC dX6_step_50 (by decide) hb ?_
      refine st_aload_n (pc := 51) hC dX6_step_51 rfl (by decide) (by decide) ?_
      refine st_getf (ci := 5) (f := 6) (v := rV 1000006 61) (pc := 52) hC dX6_step_52 fl_6_32 rfl rfl ?_
      refine st_iload_n (pc := 55) hC dX6_step_55 rfl ?_
      obtain ⟨hb, h⟩ := h
      refine st_iald (n := 6) (pc := 56) hC dX6_step_56 (by decide) hb ?_
      obtain ⟨σ1, hq, h⟩ := h
      refine st_invV (As := [iV (σ 58 (x2).toNat), iV (σ 60 (x3).toNat), iV (σ 61 (x3).toNat)]) (v := []) (S := []) (pc := 57) hC dX6_step_57 cl_6_64 rfl rfl (Nat.le_of_ble_eq_true rfl) cr_X6_tryChange hq ?_
      refine st_iinc (L2 := [rV 15 57, iV x1, iV x2, iV (w32 (x3 + 1))]) (pc := 60) hC dX6_step_60 rfl (Nat.le_of_ble_eq_true rfl) rfl ?_
      refine st_goto (tg := 24) (pc := 63) hC dX6_step_63 (by decide) ?_
      exact h
    · refine st_iinc (L2 := [rV 15 57, iV x1, iV (w32 (x2 + 1)), iV x3]) (pc := 66) hC dX6_step_66 rfl (Nat.le_of_ble_eq_true rfl) rfl ?_
      refine st_goto (tg := 10) (pc := 69) hC dX6_step_69 (by decide) ?_
      exact st_fg (L2 := [rV 15 57, iV x1, iV (w32 (x2 + 1)), uV]) hC ⟨Or.inl rfl, Or.inl rfl, Or.inl rfl, Or.inr rfl, trivial⟩ h
  · refine st_iinc (L2 := [rV 15 57, iV x1, iV (w32 (x2 + 1)), iV x3]) (pc := 66) hC dX6_step_66 rfl (Nat.le_of_ble_eq_true rfl) rfl ?_
    refine st_goto (tg := 10) (pc := 69) hC dX6_step_69 (by decide) ?_
    exact st_fg (L2 := [rV 15 57, iV x1, iV (w32 (x2 + 1)), uV]) hC ⟨Or.inl rfl, Or.inl rfl, Or.inl rfl, Or.inr rfl, trivial⟩ h
theorem bX6_newOneHolds_0 {C : Nat → List Vv → Sg → Rs → Sg → Prop} {X : Nat → List Vv → List Vv → Sg → Prop} {Xr : List Vv → Sg → Prop} {Xt : Nat → Sg → Prop} (hC : Clo C 6 cX6_newOneHolds (some .boolean) X Xr Xt) {σ : Sg} (h : X 5 [rV 15 57, rV 1000008 53, iV (σ 57 1)] [] σ) : X 0 [rV 15 57, rV 1000008 53, uV] [] σ := by
  refine st_aload_n (pc := 0) hC dX6_newOneHolds_0 rfl (by decide) (by decide) ?_
  refine st_getf (ci := 5) (f := 1) (v := iV (σ 57 1)) (pc := 1) hC dX6_newOneHolds_1 fl_6_15 rfl rfl ?_
  refine st_istore_n (L2 := [rV 15 57, rV 1000008 53, iV (σ 57 1)]) (pc := 4) hC dX6_newOneHolds_4 (Nat.le_of_ble_eq_true rfl) rfl ?_
  exact h
theorem bX6_newOneHolds_5 {C : Nat → List Vv → Sg → Rs → Sg → Prop} {X : Nat → List Vv → List Vv → Sg → Prop} {Xr : List Vv → Sg → Prop} {Xt : Nat → Sg → Prop} (hC : Clo C 6 cX6_newOneHolds (some .boolean) X Xr Xt) {x2 : Int} {σ : Sg} (h : if x2 < (σ 57 0) then (if x2 < 24310 then ((0 ≤ x2 ∧ x2 < 24310) ∧ (∃ v1 : Int, C MX6_holds [iV (σ 58 (x2).toNat), rV 1000008 53] σ (.inl [iV v1]) σ ∧ (if v1 = 0 then (X 5 [rV 15 57, rV 1000008 53, iV (w32 (x2 + 1))] [] σ) else (Xr [iV 1] σ)))) else (Xr [iV 0] σ)) else (Xr [iV 0] σ)) : X 5 [rV 15 57, rV 1000008 53, iV x2] [] σ := by
  refine st_iload_n (pc := 5) hC dX6_newOneHolds_5 rfl ?_
  refine st_aload_n (pc := 6) hC dX6_newOneHolds_6 rfl (by decide) (by decide) ?_
  refine st_getf (ci := 5) (f := 0) (v := iV (σ 57 0)) (pc := 7) hC dX6_newOneHolds_7 fl_6_9 rfl rfl ?_
  refine st_icmp_ge (tg := 41) (pc := 10) hC dX6_newOneHolds_10 (by decide) (ite_im h (fun h => ?_) (fun h => ?_))
  · refine st_iload_n (pc := 13) hC dX6_newOneHolds_13 rfl ?_
    refine st_sipush (pc := 14) hC dX6_newOneHolds_14 (by decide) ?_
    refine st_icmp_ge (tg := 41) (pc := 17) hC dX6_newOneHolds_17 (by decide) (ite_im h (fun h => ?_) (fun h => ?_))
    · refine st_aload_n (pc := 20) hC dX6_newOneHolds_20 rfl (by decide) (by decide) ?_
      refine st_getf (ci := 5) (f := 3) (v := rV 1024310 58) (pc := 21) hC dX6_newOneHolds_21 fl_6_21 rfl rfl ?_
      refine st_iload_n (pc := 24) hC dX6_newOneHolds_24 rfl ?_
      obtain ⟨hb, h⟩ := h
      refine st_iald (n := 24310) (pc := 25) hC dX6_newOneHolds_25 (by decide) hb ?_
      refine st_aload_n (pc := 26) hC dX6_newOneHolds_26 rfl (by decide) (by decide) ?_
      obtain ⟨v1, hq, h⟩ := h
      refine st_invS (As := [iV (σ 58 (x2).toNat), rV 1000008 53]) (v := [iV v1]) (S := []) (pc := 27) hC dX6_newOneHolds_27 cl_6_68 rfl rfl (Nat.le_of_ble_eq_true rfl) hq ?_
      refine st_if_eq (tg := 35) (pc := 30) hC dX6_newOneHolds_30 (by decide) (ite_im h (fun h => ?_) (fun h => ?_))
      · refine st_iinc (L2 := [rV 15 57, rV 1000008 53, iV (w32 (x2 + 1))]) (pc := 35) hC dX6_newOneHolds_35 rfl (Nat.le_of_ble_eq_true rfl) rfl ?_
        refine st_goto (tg := 5) (pc := 38) hC dX6_newOneHolds_38 (by decide) ?_
        exact h
      · refine st_iconst (pc := 33) hC dX6_newOneHolds_33 (by decide) ?_
        exact st_ireturn (pc := 34) hC dX6_newOneHolds_34 (Or.inr rfl) h
    · refine st_iconst (pc := 41) hC dX6_newOneHolds_41 (by decide) ?_
      exact st_ireturn (pc := 42) hC dX6_newOneHolds_42 (Or.inl rfl) h
  · refine st_iconst (pc := 41) hC dX6_newOneHolds_41 (by decide) ?_
    exact st_ireturn (pc := 42) hC dX6_newOneHolds_42 (Or.inl rfl) h
theorem bX6_dearestNew_0 {C : Nat → List Vv → Sg → Rs → Sg → Prop} {X : Nat → List Vv → List Vv → Sg → Prop} {Xr : List Vv → Sg → Prop} {Xt : Nat → Sg → Prop} (hC : Clo C 6 cX6_dearestNew (some .long) X Xr Xt) {t1 : Nat} {σ : Sg} (h : X 8 [rV 15 57, rV 17 t1, lV 0, uV, iV (σ 57 1), uV, uV, uV] [] σ) : X 0 [rV 15 57, rV 17 t1, uV, uV, uV, uV, uV, uV] [] σ := by
  refine st_lconst0 (pc := 0) hC dX6_dearestNew_0 ?_
  refine st_lstore_n (L2 := [rV 15 57, rV 17 t1, lV 0, uV, uV, uV, uV, uV]) (pc := 1) hC dX6_dearestNew_1 (Nat.le_of_ble_eq_true rfl) rfl ?_
  refine st_aload_n (pc := 2) hC dX6_dearestNew_2 rfl (by decide) (by decide) ?_
  refine st_getf (ci := 5) (f := 1) (v := iV (σ 57 1)) (pc := 3) hC dX6_dearestNew_3 fl_6_15 rfl rfl ?_
  refine st_istore (L2 := [rV 15 57, rV 17 t1, lV 0, uV, iV (σ 57 1), uV, uV, uV]) (pc := 6) hC dX6_dearestNew_6 (Nat.le_of_ble_eq_true rfl) rfl ?_
  exact h
theorem bX6_dearestNew_8 {C : Nat → List Vv → Sg → Rs → Sg → Prop} {X : Nat → List Vv → List Vv → Sg → Prop} {Xr : List Vv → Sg → Prop} {Xt : Nat → Sg → Prop} (hC : Clo C 6 cX6_dearestNew (some .long) X Xr Xt) {x2 x4 : Int} {t1 : Nat} {σ : Sg} (h : if x4 < (σ 57 0) then (if x4 < 24310 then (X 31 [rV 15 57, rV 17 t1, lV x2, uV, iV x4, lV 1, uV, iV 0] [] σ) else (Xr [lV x2] σ)) else (Xr [lV x2] σ)) : X 8 [rV 15 57, rV 17 t1, lV x2, uV, iV x4, uV, uV, uV] [] σ := by
  refine st_iload (pc := 8) hC dX6_dearestNew_8 rfl ?_
  refine st_aload_n (pc := 10) hC dX6_dearestNew_10 rfl (by decide) (by decide) ?_
  refine st_getf (ci := 5) (f := 0) (v := iV (σ 57 0)) (pc := 11) hC dX6_dearestNew_11 fl_6_9 rfl rfl ?_
  refine st_icmp_ge (tg := 85) (pc := 14) hC dX6_dearestNew_14 (by decide) (ite_im h (fun h => ?_) (fun h => ?_))
  · refine st_iload (pc := 17) hC dX6_dearestNew_17 rfl ?_
    refine st_sipush (pc := 19) hC dX6_dearestNew_19 (by decide) ?_
    refine st_icmp_ge (tg := 85) (pc := 22) hC dX6_dearestNew_22 (by decide) (ite_im h (fun h => ?_) (fun h => ?_))
    · refine st_lconst1 (pc := 25) hC dX6_dearestNew_25 ?_
      refine st_lstore (L2 := [rV 15 57, rV 17 t1, lV x2, uV, iV x4, lV 1, uV, uV]) (pc := 26) hC dX6_dearestNew_26 (Nat.le_of_ble_eq_true rfl) rfl ?_
      refine st_iconst (pc := 28) hC dX6_dearestNew_28 (by decide) ?_
      refine st_istore (L2 := [rV 15 57, rV 17 t1, lV x2, uV, iV x4, lV 1, uV, iV 0]) (pc := 29) hC dX6_dearestNew_29 (Nat.le_of_ble_eq_true rfl) rfl ?_
      exact h
    · refine st_lload_n (pc := 85) hC dX6_dearestNew_85 rfl ?_
      exact st_lreturn (pc := 86) hC dX6_dearestNew_86 h
  · refine st_lload_n (pc := 85) hC dX6_dearestNew_85 rfl ?_
    exact st_lreturn (pc := 86) hC dX6_dearestNew_86 h
theorem bX6_dearestNew_31 {C : Nat → List Vv → Sg → Rs → Sg → Prop} {X : Nat → List Vv → List Vv → Sg → Prop} {Xr : List Vv → Sg → Prop} {Xt : Nat → Sg → Prop} (hC : Clo C 6 cX6_dearestNew (some .long) X Xr Xt) {x2 x4 x5 x7 : Int} {t1 : Nat} {σ : Sg} (h : if x7 < (σ t1 1) then (∃ v1 : Int, C MX8_primeOf [rV 17 t1, iV x7] σ (.inl [iV v1]) σ ∧ ((0 ≤ x4 ∧ x4 < 24310) ∧ (∃ v2 : Int, C MX6_often [iV (σ 58 (x4).toNat), iV x7] σ (.inl [iV v2]) σ ∧ (∃ v3 : Int, C MX3_whole [iV v1, iV v2] σ (.inl [lV v3]) σ ∧ (X 31 [rV 15 57, rV 17 t1, lV x2, uV, iV x4, lV (w64 (x5 * v3)), uV, iV (w32 (x7 + 1))] [] σ))))) else (X 8 [rV 15 57, rV 17 t1, lV (max x2 x5), uV, iV (w32 (x4 + 1)), uV, uV, uV] [] σ)) : X 31 [rV 15 57, rV 17 t1, lV x2, uV, iV x4, lV x5, uV, iV x7] [] σ := by
  refine st_iload (pc := 31) hC dX6_dearestNew_31 rfl ?_
  refine st_aload_n (pc := 33) hC dX6_dearestNew_33 rfl (by decide) (by decide) ?_
  refine st_getf (ci := 7) (f := 1) (v := iV (σ t1 1)) (pc := 34) hC dX6_dearestNew_34 fl_6_72 rfl rfl ?_
  refine st_icmp_ge (tg := 72) (pc := 37) hC dX6_dearestNew_37 (by decide) (ite_im h (fun h => ?_) (fun h => ?_))
  · refine st_lload (pc := 40) hC dX6_dearestNew_40 rfl ?_
    refine st_aload_n (pc := 42) hC dX6_dearestNew_42 rfl (by decide) (by decide) ?_
    refine st_iload (pc := 43) hC dX6_dearestNew_43 rfl ?_
    obtain ⟨v1, hq, h⟩ := h
    refine st_invV (As := [iV x7]) (v := [iV v1]) (S := [lV x5]) (pc := 45) hC dX6_dearestNew_45 cl_6_75 rfl rfl (Nat.le_of_ble_eq_true rfl) cr_X8_primeOf hq ?_
    refine st_aload_n (pc := 48) hC dX6_dearestNew_48 rfl (by decide) (by decide) ?_
    refine st_getf (ci := 5) (f := 3) (v := rV 1024310 58) (pc := 49) hC dX6_dearestNew_49 fl_6_21 rfl rfl ?_
    refine st_iload (pc := 52) hC dX6_dearestNew_52 rfl ?_
    obtain ⟨hb, h⟩ := h
    refine st_iald (n := 24310) (pc := 54) hC dX6_dearestNew_54 (by decide) hb ?_
    refine st_iload (pc := 55) hC dX6_dearestNew_55 rfl ?_
    obtain ⟨v2, hq, h⟩ := h
    refine st_invS (As := [iV (σ 58 (x4).toNat), iV x7]) (v := [iV v2]) (S := [iV v1, lV x5]) (pc := 57) hC dX6_dearestNew_57 cl_6_79 rfl rfl (Nat.le_of_ble_eq_true rfl) hq ?_
    obtain ⟨v3, hq, h⟩ := h
    refine st_invS (As := [iV v1, iV v2]) (v := [lV v3]) (S := [lV x5]) (pc := 60) hC dX6_dearestNew_60 cl_6_82 rfl rfl (Nat.le_of_ble_eq_true rfl) hq ?_
    refine st_lmul (pc := 63) hC dX6_dearestNew_63 ?_
    refine st_lstore (L2 := [rV 15 57, rV 17 t1, lV x2, uV, iV x4, lV (w64 (x5 * v3)), uV, iV x7]) (pc := 64) hC dX6_dearestNew_64 (Nat.le_of_ble_eq_true rfl) rfl ?_
    refine st_iinc (L2 := [rV 15 57, rV 17 t1, lV x2, uV, iV x4, lV (w64 (x5 * v3)), uV, iV (w32 (x7 + 1))]) (pc := 66) hC dX6_dearestNew_66 rfl (Nat.le_of_ble_eq_true rfl) rfl ?_
    refine st_goto (tg := 31) (pc := 69) hC dX6_dearestNew_69 (by decide) ?_
    exact h
  · refine st_lload_n (pc := 72) hC dX6_dearestNew_72 rfl ?_
    refine st_lload (pc := 73) hC dX6_dearestNew_73 rfl ?_
    refine st_lmax (pc := 75) hC dX6_dearestNew_75 rfl (Nat.le_of_ble_eq_true rfl) ?_
    refine st_lstore_n (L2 := [rV 15 57, rV 17 t1, lV (max x2 x5), uV, iV x4, lV x5, uV, iV x7]) (pc := 78) hC dX6_dearestNew_78 (Nat.le_of_ble_eq_true rfl) rfl ?_
    refine st_iinc (L2 := [rV 15 57, rV 17 t1, lV (max x2 x5), uV, iV (w32 (x4 + 1)), lV x5, uV, iV x7]) (pc := 79) hC dX6_dearestNew_79 rfl (Nat.le_of_ble_eq_true rfl) rfl ?_
    refine st_goto (tg := 8) (pc := 82) hC dX6_dearestNew_82 (by decide) ?_
    exact st_fg (L2 := [rV 15 57, rV 17 t1, lV (max x2 x5), uV, iV (w32 (x4 + 1)), uV, uV, uV]) hC ⟨Or.inl rfl, Or.inl rfl, Or.inl rfl, Or.inl rfl, Or.inl rfl, Or.inr rfl, Or.inl rfl, Or.inr rfl, trivial⟩ h
theorem bX6_often_0 {C : Nat → List Vv → Sg → Rs → Sg → Prop} {X : Nat → List Vv → List Vv → Sg → Prop} {Xr : List Vv → Sg → Prop} {Xt : Nat → Sg → Prop} (hC : Clo C 6 cX6_often (some .int) X Xr Xt) {x0 x1 : Int} {σ : Sg} (h : Xr [iV (iandI (iushrI x0 (w32 (4 * x1))) 15)] σ) : X 0 [iV x0, iV x1] [] σ := by
  refine st_iload_n (pc := 0) hC dX6_often_0 rfl ?_
  refine st_iconst (pc := 1) hC dX6_often_1 (by decide) ?_
  refine st_iload_n (pc := 2) hC dX6_often_2 rfl ?_
  refine st_imul (pc := 3) hC dX6_often_3 ?_
  refine st_iushr (pc := 4) hC dX6_often_4 ?_
  refine st_bipush (pc := 5) hC dX6_often_5 (by decide) ?_
  refine st_iand (pc := 7) hC dX6_often_7 ?_
  exact st_ireturn (pc := 8) hC dX6_often_8 trivial h
theorem bX6_holds_0 {C : Nat → List Vv → Sg → Rs → Sg → Prop} {X : Nat → List Vv → List Vv → Sg → Prop} {Xr : List Vv → Sg → Prop} {Xt : Nat → Sg → Prop} (hC : Clo C 6 cX6_holds (some .boolean) X Xr Xt) {x0 : Int} {σ : Sg} (h : X 2 [iV x0, rV 1000008 53, iV 0] [] σ) : X 0 [iV x0, rV 1000008 53, uV] [] σ := by
  refine st_iconst (pc := 0) hC dX6_holds_0 (by decide) ?_
  refine st_istore_n (L2 := [iV x0, rV 1000008 53, iV 0]) (pc := 1) hC dX6_holds_1 (Nat.le_of_ble_eq_true rfl) rfl ?_
  exact h
theorem bX6_holds_2 {C : Nat → List Vv → Sg → Rs → Sg → Prop} {X : Nat → List Vv → List Vv → Sg → Prop} {Xr : List Vv → Sg → Prop} {Xt : Nat → Sg → Prop} (hC : Clo C 6 cX6_holds (some .boolean) X Xr Xt) {x0 x2 : Int} {σ : Sg} (h : if x2 < 8 then (if x2 < 8 then (∃ v1 : Int, C MX6_often [iV x0, iV x2] σ (.inl [iV v1]) σ ∧ ((0 ≤ x2 ∧ x2 < 8) ∧ (if v1 < (σ 53 (x2).toNat) then (Xr [iV 0] σ) else (X 2 [iV x0, rV 1000008 53, iV (w32 (x2 + 1))] [] σ)))) else (Xr [iV 1] σ)) else (Xr [iV 1] σ)) : X 2 [iV x0, rV 1000008 53, iV x2] [] σ := by
  refine st_iload_n (pc := 2) hC dX6_holds_2 rfl ?_
  refine st_bipush (pc := 3) hC dX6_holds_3 (by decide) ?_
  refine st_icmp_ge (tg := 33) (pc := 5) hC dX6_holds_5 (by decide) (ite_im h (fun h => ?_) (fun h => ?_))
  · refine st_iload_n (pc := 8) hC dX6_holds_8 rfl ?_
    refine st_aload_n (pc := 9) hC dX6_holds_9 rfl (by decide) (by decide) ?_
    refine st_alen (n := 8) (pc := 10) hC dX6_holds_10 (by decide) ?_
    refine st_icmp_ge (tg := 33) (pc := 11) hC dX6_holds_11 (by decide) (ite_im h (fun h => ?_) (fun h => ?_))
    · refine st_iload_n (pc := 14) hC dX6_holds_14 rfl ?_
      refine st_iload_n (pc := 15) hC dX6_holds_15 rfl ?_
      obtain ⟨v1, hq, h⟩ := h
      refine st_invS (As := [iV x0, iV x2]) (v := [iV v1]) (S := []) (pc := 16) hC dX6_holds_16 cl_6_79 rfl rfl (Nat.le_of_ble_eq_true rfl) hq ?_
      refine st_aload_n (pc := 19) hC dX6_holds_19 rfl (by decide) (by decide) ?_
      refine st_iload_n (pc := 20) hC dX6_holds_20 rfl ?_
      obtain ⟨hb, h⟩ := h
      refine st_iald (n := 8) (pc := 21) hC dX6_holds_21 (by decide) hb ?_
      refine st_icmp_ge (tg := 27) (pc := 22) hC dX6_holds_22 (by decide) (ite_im h (fun h => ?_) (fun h => ?_))
      · refine st_iconst (pc := 25) hC dX6_holds_25 (by decide) ?_
        exact st_ireturn (pc := 26) hC dX6_holds_26 (Or.inl rfl) h
      · refine st_iinc (L2 := [iV x0, rV 1000008 53, iV (w32 (x2 + 1))]) (pc := 27) hC dX6_holds_27 rfl (Nat.le_of_ble_eq_true rfl) rfl ?_
        refine st_goto (tg := 2) (pc := 30) hC dX6_holds_30 (by decide) ?_
        exact h
    · refine st_iconst (pc := 33) hC dX6_holds_33 (by decide) ?_
      exact st_ireturn (pc := 34) hC dX6_holds_34 (Or.inr rfl) h
  · refine st_iconst (pc := 33) hC dX6_holds_33 (by decide) ?_
    exact st_ireturn (pc := 34) hC dX6_holds_34 (Or.inr rfl) h
theorem bX6_tryChange_0 {C : Nat → List Vv → Sg → Rs → Sg → Prop} {X : Nat → List Vv → List Vv → Sg → Prop} {Xr : List Vv → Sg → Prop} {Xt : Nat → Sg → Prop} (hC : Clo C 6 cX6_tryChange none X Xr Xt) {x1 x2 x3 : Int} {σ : Sg} (h : X 6 [rV 15 57, iV x1, iV x2, iV x3, iV 0, iV 0] [] σ) : X 0 [rV 15 57, iV x1, iV x2, iV x3, uV, uV] [] σ := by
  refine st_iconst (pc := 0) hC dX6_tryChange_0 (by decide) ?_
  refine st_istore (L2 := [rV 15 57, iV x1, iV x2, iV x3, iV 0, uV]) (pc := 1) hC dX6_tryChange_1 (Nat.le_of_ble_eq_true rfl) rfl ?_
  refine st_iconst (pc := 3) hC dX6_tryChange_3 (by decide) ?_
  refine st_istore (L2 := [rV 15 57, iV x1, iV x2, iV x3, iV 0, iV 0]) (pc := 4) hC dX6_tryChange_4 (Nat.le_of_ble_eq_true rfl) rfl ?_
  exact h
theorem bX6_tryChange_6 {C : Nat → List Vv → Sg → Rs → Sg → Prop} {X : Nat → List Vv → List Vv → Sg → Prop} {Xr : List Vv → Sg → Prop} {Xt : Nat → Sg → Prop} (hC : Clo C 6 cX6_tryChange none X Xr Xt) {x1 x2 x3 x4 x5 : Int} {σ : Sg} (h : if x5 < 8 then (∃ v1 : Int, C MX6_often [iV x1, iV x5] σ (.inl [iV v1]) σ ∧ (∃ v2 : Int, C MX6_often [iV x2, iV x5] σ (.inl [iV v2]) σ ∧ (if v1 < v2 then (Xr [] σ) else (∃ v3 : Int, C MX6_often [iV x1, iV x5] σ (.inl [iV v3]) σ ∧ (∃ v4 : Int, C MX6_often [iV x2, iV x5] σ (.inl [iV v4]) σ ∧ (∃ v5 : Int, C MX6_often [iV x3, iV x5] σ (.inl [iV v5]) σ ∧ (X 6 [rV 15 57, iV x1, iV x2, iV x3, iV (w32 (x4 + (w32 ((w32 (v3 - v4)) + v5)))), iV (w32 (x5 + 1))] [] σ))))))) else (if (9 : Int) < x4 then (Xr [] σ) else (∃ σ6 : Sg, C MX6_meet [rV 15 57, iV (w32 ((w32 (x1 - x2)) + x3))] σ (.inl []) σ6 ∧ (Xr [] σ6)))) : X 6 [rV 15 57, iV x1, iV x2, iV x3, iV x4, iV x5] [] σ := by
  refine st_iload (pc := 6) hC dX6_tryChange_6 rfl ?_
  refine st_bipush (pc := 8) hC dX6_tryChange_8 (by decide) ?_
  refine st_icmp_ge (tg := 60) (pc := 10) hC dX6_tryChange_10 (by decide) (ite_im h (fun h => ?_) (fun h => ?_))
  · refine st_iload_n (pc := 13) hC dX6_tryChange_13 rfl ?_
    refine st_iload (pc := 14) hC dX6_tryChange_14 rfl ?_
    obtain ⟨v1, hq, h⟩ := h
    refine st_invS (As := [iV x1, iV x5]) (v := [iV v1]) (S := []) (pc := 16) hC dX6_tryChange_16 cl_6_79 rfl rfl (Nat.le_of_ble_eq_true rfl) hq ?_
    refine st_iload_n (pc := 19) hC dX6_tryChange_19 rfl ?_
    refine st_iload (pc := 20) hC dX6_tryChange_20 rfl ?_
    obtain ⟨v2, hq, h⟩ := h
    refine st_invS (As := [iV x2, iV x5]) (v := [iV v2]) (S := [iV v1]) (pc := 22) hC dX6_tryChange_22 cl_6_79 rfl rfl (Nat.le_of_ble_eq_true rfl) hq ?_
    refine st_icmp_ge (tg := 29) (pc := 25) hC dX6_tryChange_25 (by decide) (ite_im h (fun h => ?_) (fun h => ?_))
    · exact st_return (pc := 28) hC dX6_tryChange_28 h
    · refine st_iload (pc := 29) hC dX6_tryChange_29 rfl ?_
      refine st_iload_n (pc := 31) hC dX6_tryChange_31 rfl ?_
      refine st_iload (pc := 32) hC dX6_tryChange_32 rfl ?_
      obtain ⟨v3, hq, h⟩ := h
      refine st_invS (As := [iV x1, iV x5]) (v := [iV v3]) (S := [iV x4]) (pc := 34) hC dX6_tryChange_34 cl_6_79 rfl rfl (Nat.le_of_ble_eq_true rfl) hq ?_
      refine st_iload_n (pc := 37) hC dX6_tryChange_37 rfl ?_
      refine st_iload (pc := 38) hC dX6_tryChange_38 rfl ?_
      obtain ⟨v4, hq, h⟩ := h
      refine st_invS (As := [iV x2, iV x5]) (v := [iV v4]) (S := [iV v3, iV x4]) (pc := 40) hC dX6_tryChange_40 cl_6_79 rfl rfl (Nat.le_of_ble_eq_true rfl) hq ?_
      refine st_isub (pc := 43) hC dX6_tryChange_43 ?_
      refine st_iload_n (pc := 44) hC dX6_tryChange_44 rfl ?_
      refine st_iload (pc := 45) hC dX6_tryChange_45 rfl ?_
      obtain ⟨v5, hq, h⟩ := h
      refine st_invS (As := [iV x3, iV x5]) (v := [iV v5]) (S := [iV (w32 (v3 - v4)), iV x4]) (pc := 47) hC dX6_tryChange_47 cl_6_79 rfl rfl (Nat.le_of_ble_eq_true rfl) hq ?_
      refine st_iadd (pc := 50) hC dX6_tryChange_50 ?_
      refine st_iadd (pc := 51) hC dX6_tryChange_51 ?_
      refine st_istore (L2 := [rV 15 57, iV x1, iV x2, iV x3, iV (w32 (x4 + (w32 ((w32 (v3 - v4)) + v5)))), iV x5]) (pc := 52) hC dX6_tryChange_52 (Nat.le_of_ble_eq_true rfl) rfl ?_
      refine st_iinc (L2 := [rV 15 57, iV x1, iV x2, iV x3, iV (w32 (x4 + (w32 ((w32 (v3 - v4)) + v5)))), iV (w32 (x5 + 1))]) (pc := 54) hC dX6_tryChange_54 rfl (Nat.le_of_ble_eq_true rfl) rfl ?_
      refine st_goto (tg := 6) (pc := 57) hC dX6_tryChange_57 (by decide) ?_
      exact h
  · refine st_iload (pc := 60) hC dX6_tryChange_60 rfl ?_
    refine st_bipush (pc := 62) hC dX6_tryChange_62 (by decide) ?_
    refine st_icmp_gt (tg := 76) (pc := 64) hC dX6_tryChange_64 (by decide) (ite_im h (fun h => ?_) (fun h => ?_))
    · exact st_return (pc := 76) hC dX6_tryChange_76 h
    · refine st_aload_n (pc := 67) hC dX6_tryChange_67 rfl (by decide) (by decide) ?_
      refine st_iload_n (pc := 68) hC dX6_tryChange_68 rfl ?_
      refine st_iload_n (pc := 69) hC dX6_tryChange_69 rfl ?_
      refine st_isub (pc := 70) hC dX6_tryChange_70 ?_
      refine st_iload_n (pc := 71) hC dX6_tryChange_71 rfl ?_
      refine st_iadd (pc := 72) hC dX6_tryChange_72 ?_
      obtain ⟨σ6, hq, h⟩ := h
      refine st_invV (As := [iV (w32 ((w32 (x1 - x2)) + x3))]) (v := []) (S := []) (pc := 73) hC dX6_tryChange_73 cl_6_60 rfl rfl (Nat.le_of_ble_eq_true rfl) cr_X6_meet hq ?_
      exact st_return (pc := 76) hC dX6_tryChange_76 h
theorem bX6_meet_0 {C : Nat → List Vv → Sg → Rs → Sg → Prop} {X : Nat → List Vv → List Vv → Sg → Prop} {Xr : List Vv → Sg → Prop} {Xt : Nat → Sg → Prop} (hC : Clo C 6 cX6_meet none X Xr Xt) {x1 : Int} {σ : Sg} (h : ∃ v1 : Int, C MX6_rankOf [rV 15 57, iV x1] σ (.inl [iV v1]) σ ∧ (if (σ 57 0) < 24310 then (if (w32 (v1.tdiv 64)) < 0 then (Xr [] σ) else (if (w32 (v1.tdiv 64)) < 380 then ((0 ≤ (w32 (v1.tdiv 64)) ∧ (w32 (v1.tdiv 64)) < 380) ∧ (if (landI (σ 59 ((w32 (v1.tdiv 64))).toNat) (lshlI 1 (v1.tmod 64))) = 0 then ((0 ≤ (w32 (v1.tdiv 64)) ∧ (w32 (v1.tdiv 64)) < 380) ∧ ((0 ≤ (w32 (v1.tdiv 64)) ∧ (w32 (v1.tdiv 64)) < 380) ∧ ((0 ≤ ((upS σ 59 ((w32 (v1.tdiv 64))).toNat (lorI (σ 59 ((w32 (v1.tdiv 64))).toNat) (lshlI 1 (v1.tmod 64)))) 57 0) ∧ ((upS σ 59 ((w32 (v1.tdiv 64))).toNat (lorI (σ 59 ((w32 (v1.tdiv 64))).toNat) (lshlI 1 (v1.tmod 64)))) 57 0) < 24310) ∧ (Xr [] (upS (upS (upS σ 59 ((w32 (v1.tdiv 64))).toNat (lorI (σ 59 ((w32 (v1.tdiv 64))).toNat) (lshlI 1 (v1.tmod 64)))) 58 (((upS σ 59 ((w32 (v1.tdiv 64))).toNat (lorI (σ 59 ((w32 (v1.tdiv 64))).toNat) (lshlI 1 (v1.tmod 64)))) 57 0)).toNat x1) 57 0 (w32 (((upS (upS σ 59 ((w32 (v1.tdiv 64))).toNat (lorI (σ 59 ((w32 (v1.tdiv 64))).toNat) (lshlI 1 (v1.tmod 64)))) 58 (((upS σ 59 ((w32 (v1.tdiv 64))).toNat (lorI (σ 59 ((w32 (v1.tdiv 64))).toNat) (lshlI 1 (v1.tmod 64)))) 57 0)).toNat x1) 57 0) + 1))))))) else (Xr [] σ))) else (Xr [] σ))) else (Xr [] σ))) : X 0 [rV 15 57, iV x1, uV, uV, uV, uV] [] σ := by
  refine st_aload_n (pc := 0) hC dX6_meet_0 rfl (by decide) (by decide) ?_
  refine st_iload_n (pc := 1) hC dX6_meet_1 rfl ?_
  obtain ⟨v1, hq, h⟩ := h
  refine st_invV (As := [iV x1]) (v := [iV v1]) (S := []) (pc := 2) hC dX6_meet_2 cl_6_92 rfl rfl (Nat.le_of_ble_eq_true rfl) cr_X6_rankOf hq ?_
  refine st_istore_n (L2 := [rV 15 57, iV x1, iV v1, uV, uV, uV]) (pc := 5) hC dX6_meet_5 (Nat.le_of_ble_eq_true rfl) rfl ?_
  refine st_iload_n (pc := 6) hC dX6_meet_6 rfl ?_
  refine st_bipush (pc := 7) hC dX6_meet_7 (by decide) ?_
  refine st_idiv (pc := 9) hC dX6_meet_9 (by decide) ?_
  refine st_istore_n (L2 := [rV 15 57, iV x1, iV v1, iV (w32 (v1.tdiv 64)), uV, uV]) (pc := 10) hC dX6_meet_10 (Nat.le_of_ble_eq_true rfl) rfl ?_
  refine st_lconst1 (pc := 11) hC dX6_meet_11 ?_
  refine st_iload_n (pc := 12) hC dX6_meet_12 rfl ?_
  refine st_bipush (pc := 13) hC dX6_meet_13 (by decide) ?_
  refine st_irem (pc := 15) hC dX6_meet_15 (by decide) ?_
  refine st_lshl (pc := 16) hC dX6_meet_16 ?_
  refine st_lstore (L2 := [rV 15 57, iV x1, iV v1, iV (w32 (v1.tdiv 64)), lV (lshlI 1 (v1.tmod 64)), uV]) (pc := 17) hC dX6_meet_17 (Nat.le_of_ble_eq_true rfl) rfl ?_
  refine st_aload_n (pc := 19) hC dX6_meet_19 rfl (by decide) (by decide) ?_
  refine st_getf (ci := 5) (f := 0) (v := iV (σ 57 0)) (pc := 20) hC dX6_meet_20 fl_6_9 rfl rfl ?_
  refine st_sipush (pc := 23) hC dX6_meet_23 (by decide) ?_
  refine st_icmp_ge (tg := 56) (pc := 26) hC dX6_meet_26 (by decide) (ite_im h (fun h => ?_) (fun h => ?_))
  · refine st_iload_n (pc := 29) hC dX6_meet_29 rfl ?_
    refine st_if_lt (tg := 56) (pc := 30) hC dX6_meet_30 (by decide) (ite_im h (fun h => ?_) (fun h => ?_))
    · exact st_return (pc := 56) hC dX6_meet_56 h
    · refine st_iload_n (pc := 33) hC dX6_meet_33 rfl ?_
      refine st_aload_n (pc := 34) hC dX6_meet_34 rfl (by decide) (by decide) ?_
      refine st_getf (ci := 5) (f := 4) (v := rV 2000380 59) (pc := 35) hC dX6_meet_35 fl_6_25 rfl rfl ?_
      refine st_alen (n := 380) (pc := 38) hC dX6_meet_38 (by decide) ?_
      refine st_icmp_ge (tg := 56) (pc := 39) hC dX6_meet_39 (by decide) (ite_im h (fun h => ?_) (fun h => ?_))
      · refine st_aload_n (pc := 42) hC dX6_meet_42 rfl (by decide) (by decide) ?_
        refine st_getf (ci := 5) (f := 4) (v := rV 2000380 59) (pc := 43) hC dX6_meet_43 fl_6_25 rfl rfl ?_
        refine st_iload_n (pc := 46) hC dX6_meet_46 rfl ?_
        obtain ⟨hb, h⟩ := h
        refine st_lald (n := 380) (pc := 47) hC dX6_meet_47 (by decide) hb ?_
        refine st_lload (pc := 48) hC dX6_meet_48 rfl ?_
        refine st_land (pc := 50) hC dX6_meet_50 ?_
        refine st_lconst0 (pc := 51) hC dX6_meet_51 ?_
        refine st_lcmp_eq (tg := 57) (pc := 52) hC dX6_meet_52 dX6_meet_53 (by decide) (ite_im h (fun h => ?_) (fun h => ?_))
        · refine st_aload_n (pc := 57) hC dX6_meet_57 rfl (by decide) (by decide) ?_
          refine st_getf (ci := 5) (f := 4) (v := rV 2000380 59) (pc := 58) hC dX6_meet_58 fl_6_25 rfl rfl ?_
          refine st_iload_n (pc := 61) hC dX6_meet_61 rfl ?_
          refine st_dup2IR (pc := 62) hC dX6_meet_62 (by decide) (by decide) ?_
          obtain ⟨hb, h⟩ := h
          refine st_lald (n := 380) (pc := 63) hC dX6_meet_63 (by decide) hb ?_
          refine st_lload (pc := 64) hC dX6_meet_64 rfl ?_
          refine st_lor (pc := 66) hC dX6_meet_66 ?_
          obtain ⟨hb, h⟩ := h
          refine st_last (n := 380) (pc := 67) hC dX6_meet_67 (by decide) hb ?_
          refine st_aload_n (pc := 68) hC dX6_meet_68 rfl (by decide) (by decide) ?_
          refine st_getf (ci := 5) (f := 3) (v := rV 1024310 58) (pc := 69) hC dX6_meet_69 fl_6_21 rfl rfl ?_
          refine st_aload_n (pc := 72) hC dX6_meet_72 rfl (by decide) (by decide) ?_
          refine st_getf (ci := 5) (f := 0) (v := iV ((upS σ 59 ((w32 (v1.tdiv 64))).toNat (lorI (σ 59 ((w32 (v1.tdiv 64))).toNat) (lshlI 1 (v1.tmod 64)))) 57 0)) (pc := 73) hC dX6_meet_73 fl_6_9 rfl rfl ?_
          refine st_iload_n (pc := 76) hC dX6_meet_76 rfl ?_
          obtain ⟨hb, h⟩ := h
          refine st_iast (n := 24310) (pc := 77) hC dX6_meet_77 (by decide) hb ?_
          refine st_aload_n (pc := 78) hC dX6_meet_78 rfl (by decide) (by decide) ?_
          refine st_dupR (pc := 79) hC dX6_meet_79 (by decide) (by decide) ?_
          refine st_getf (ci := 5) (f := 0) (v := iV ((upS (upS σ 59 ((w32 (v1.tdiv 64))).toNat (lorI (σ 59 ((w32 (v1.tdiv 64))).toNat) (lshlI 1 (v1.tmod 64)))) 58 (((upS σ 59 ((w32 (v1.tdiv 64))).toNat (lorI (σ 59 ((w32 (v1.tdiv 64))).toNat) (lshlI 1 (v1.tmod 64)))) 57 0)).toNat x1) 57 0)) (pc := 80) hC dX6_meet_80 fl_6_9 rfl rfl ?_
          refine st_iconst (pc := 83) hC dX6_meet_83 (by decide) ?_
          refine st_iadd (pc := 84) hC dX6_meet_84 ?_
          refine st_putfI (ci := 5) (f := 0) (pc := 85) hC dX6_meet_85 fl_6_9 rfl rfl ?_
          exact st_return (pc := 88) hC dX6_meet_88 h
        · exact st_return (pc := 56) hC dX6_meet_56 h
      · exact st_return (pc := 56) hC dX6_meet_56 h
  · exact st_return (pc := 56) hC dX6_meet_56 h
theorem bX6_rankOf_0 {C : Nat → List Vv → Sg → Rs → Sg → Prop} {X : Nat → List Vv → List Vv → Sg → Prop} {Xr : List Vv → Sg → Prop} {Xt : Nat → Sg → Prop} (hC : Clo C 6 cX6_rankOf (some .int) X Xr Xt) {x1 : Int} {σ : Sg} (h : X 8 [rV 15 57, iV x1, iV 0, iV 9, iV 0, uV] [] σ) : X 0 [rV 15 57, iV x1, uV, uV, uV, uV] [] σ := by
  refine st_iconst (pc := 0) hC dX6_rankOf_0 (by decide) ?_
  refine st_istore_n (L2 := [rV 15 57, iV x1, iV 0, uV, uV, uV]) (pc := 1) hC dX6_rankOf_1 (Nat.le_of_ble_eq_true rfl) rfl ?_
  refine st_bipush (pc := 2) hC dX6_rankOf_2 (by decide) ?_
  refine st_istore_n (L2 := [rV 15 57, iV x1, iV 0, iV 9, uV, uV]) (pc := 4) hC dX6_rankOf_4 (Nat.le_of_ble_eq_true rfl) rfl ?_
  refine st_iconst (pc := 5) hC dX6_rankOf_5 (by decide) ?_
  refine st_istore (L2 := [rV 15 57, iV x1, iV 0, iV 9, iV 0, uV]) (pc := 6) hC dX6_rankOf_6 (Nat.le_of_ble_eq_true rfl) rfl ?_
  exact h
theorem bX6_rankOf_8 {C : Nat → List Vv → Sg → Rs → Sg → Prop} {X : Nat → List Vv → List Vv → Sg → Prop} {Xr : List Vv → Sg → Prop} {Xt : Nat → Sg → Prop} (hC : Clo C 6 cX6_rankOf (some .int) X Xr Xt) {x1 x2 x3 x4 : Int} {σ : Sg} (h : if x4 < 8 then (∃ v1 : Int, C MX6_often [iV x1, iV x4] σ (.inl [iV v1]) σ ∧ ((0 ≤ (w32 ((w32 ((w32 (x3 * 9)) + 8)) - x4)) ∧ (w32 ((w32 ((w32 (x3 * 9)) + 8)) - x4)) < 90) ∧ ((0 ≤ (w32 ((w32 ((w32 ((max (w32 (x3 - v1)) 0) * 9)) + 8)) - x4)) ∧ (w32 ((w32 ((w32 ((max (w32 (x3 - v1)) 0) * 9)) + 8)) - x4)) < 90) ∧ (X 8 [rV 15 57, iV x1, iV (w32 (x2 + (w32 ((σ 62 ((w32 ((w32 ((w32 (x3 * 9)) + 8)) - x4))).toNat) - (σ 62 ((w32 ((w32 ((w32 ((max (w32 (x3 - v1)) 0) * 9)) + 8)) - x4))).toNat))))), iV (max (w32 (x3 - v1)) 0), iV (w32 (x4 + 1)), uV] [] σ)))) else (Xr [iV x2] σ)) : X 8 [rV 15 57, iV x1, iV x2, iV x3, iV x4, uV] [] σ := by
  refine st_iload (pc := 8) hC dX6_rankOf_8 rfl ?_
  refine st_bipush (pc := 10) hC dX6_rankOf_10 (by decide) ?_
  refine st_icmp_ge (tg := 73) (pc := 12) hC dX6_rankOf_12 (by decide) (ite_im h (fun h => ?_) (fun h => ?_))
  · refine st_iload_n (pc := 15) hC dX6_rankOf_15 rfl ?_
    refine st_iload_n (pc := 16) hC dX6_rankOf_16 rfl ?_
    refine st_iload (pc := 17) hC dX6_rankOf_17 rfl ?_
    obtain ⟨v1, hq, h⟩ := h
    refine st_invS (As := [iV x1, iV x4]) (v := [iV v1]) (S := [iV x3]) (pc := 19) hC dX6_rankOf_19 cl_6_79 rfl rfl (Nat.le_of_ble_eq_true rfl) hq ?_
    refine st_isub (pc := 22) hC dX6_rankOf_22 ?_
    refine st_iconst (pc := 23) hC dX6_rankOf_23 (by decide) ?_
    refine st_mmax (pc := 24) hC dX6_rankOf_24 rfl (Nat.le_of_ble_eq_true rfl) ?_
    refine st_istore (L2 := [rV 15 57, iV x1, iV x2, iV x3, iV x4, iV (max (w32 (x3 - v1)) 0)]) (pc := 27) hC dX6_rankOf_27 (Nat.le_of_ble_eq_true rfl) rfl ?_
    refine st_iload_n (pc := 29) hC dX6_rankOf_29 rfl ?_
    refine st_aload_n (pc := 30) hC dX6_rankOf_30 rfl (by decide) (by decide) ?_
    refine st_getf (ci := 5) (f := 7) (v := rV 1000090 62) (pc := 31) hC dX6_rankOf_31 fl_6_35 rfl rfl ?_
    refine st_iload_n (pc := 34) hC dX6_rankOf_34 rfl ?_
    refine st_bipush (pc := 35) hC dX6_rankOf_35 (by decide) ?_
    refine st_imul (pc := 37) hC dX6_rankOf_37 ?_
    refine st_bipush (pc := 38) hC dX6_rankOf_38 (by decide) ?_
    refine st_iadd (pc := 40) hC dX6_rankOf_40 ?_
    refine st_iload (pc := 41) hC dX6_rankOf_41 rfl ?_
    refine st_isub (pc := 43) hC dX6_rankOf_43 ?_
    obtain ⟨hb, h⟩ := h
    refine st_iald (n := 90) (pc := 44) hC dX6_rankOf_44 (by decide) hb ?_
    refine st_aload_n (pc := 45) hC dX6_rankOf_45 rfl (by decide) (by decide) ?_
    refine st_getf (ci := 5) (f := 7) (v := rV 1000090 62) (pc := 46) hC dX6_rankOf_46 fl_6_35 rfl rfl ?_
    refine st_iload (pc := 49) hC dX6_rankOf_49 rfl ?_
    refine st_bipush (pc := 51) hC dX6_rankOf_51 (by decide) ?_
    refine st_imul (pc := 53) hC dX6_rankOf_53 ?_
    refine st_bipush (pc := 54) hC dX6_rankOf_54 (by decide) ?_
    refine st_iadd (pc := 56) hC dX6_rankOf_56 ?_
    refine st_iload (pc := 57) hC dX6_rankOf_57 rfl ?_
    refine st_isub (pc := 59) hC dX6_rankOf_59 ?_
    obtain ⟨hb, h⟩ := h
    refine st_iald (n := 90) (pc := 60) hC dX6_rankOf_60 (by decide) hb ?_
    refine st_isub (pc := 61) hC dX6_rankOf_61 ?_
    refine st_iadd (pc := 62) hC dX6_rankOf_62 ?_
    refine st_istore_n (L2 := [rV 15 57, iV x1, iV (w32 (x2 + (w32 ((σ 62 ((w32 ((w32 ((w32 (x3 * 9)) + 8)) - x4))).toNat) - (σ 62 ((w32 ((w32 ((w32 ((max (w32 (x3 - v1)) 0) * 9)) + 8)) - x4))).toNat))))), iV x3, iV x4, iV (max (w32 (x3 - v1)) 0)]) (pc := 63) hC dX6_rankOf_63 (Nat.le_of_ble_eq_true rfl) rfl ?_
    refine st_iload (pc := 64) hC dX6_rankOf_64 rfl ?_
    refine st_istore_n (L2 := [rV 15 57, iV x1, iV (w32 (x2 + (w32 ((σ 62 ((w32 ((w32 ((w32 (x3 * 9)) + 8)) - x4))).toNat) - (σ 62 ((w32 ((w32 ((w32 ((max (w32 (x3 - v1)) 0) * 9)) + 8)) - x4))).toNat))))), iV (max (w32 (x3 - v1)) 0), iV x4, iV (max (w32 (x3 - v1)) 0)]) (pc := 66) hC dX6_rankOf_66 (Nat.le_of_ble_eq_true rfl) rfl ?_
    refine st_iinc (L2 := [rV 15 57, iV x1, iV (w32 (x2 + (w32 ((σ 62 ((w32 ((w32 ((w32 (x3 * 9)) + 8)) - x4))).toNat) - (σ 62 ((w32 ((w32 ((w32 ((max (w32 (x3 - v1)) 0) * 9)) + 8)) - x4))).toNat))))), iV (max (w32 (x3 - v1)) 0), iV (w32 (x4 + 1)), iV (max (w32 (x3 - v1)) 0)]) (pc := 67) hC dX6_rankOf_67 rfl (Nat.le_of_ble_eq_true rfl) rfl ?_
    refine st_goto (tg := 8) (pc := 70) hC dX6_rankOf_70 (by decide) ?_
    exact st_fg (L2 := [rV 15 57, iV x1, iV (w32 (x2 + (w32 ((σ 62 ((w32 ((w32 ((w32 (x3 * 9)) + 8)) - x4))).toNat) - (σ 62 ((w32 ((w32 ((w32 ((max (w32 (x3 - v1)) 0) * 9)) + 8)) - x4))).toNat))))), iV (max (w32 (x3 - v1)) 0), iV (w32 (x4 + 1)), uV]) hC ⟨Or.inl rfl, Or.inl rfl, Or.inl rfl, Or.inl rfl, Or.inl rfl, Or.inr rfl, trivial⟩ h
  · refine st_iload_n (pc := 73) hC dX6_rankOf_73 rfl ?_
    exact st_ireturn (pc := 74) hC dX6_rankOf_74 trivial h
