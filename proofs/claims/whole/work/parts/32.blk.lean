theorem bX11_thrown_0 {C : Nat → List Vv → Sg → Rs → Sg → Prop} {X : Nat → List Vv → List Vv → Sg → Prop} {Xr : List Vv → Sg → Prop} {Xt : Nat → Sg → Prop} (hC : Clo C 11 cX11_thrown (some .int) X Xr Xt) {σ : Sg} (h : Xr [iV (σ 66 5)] σ) : X 0 [rV 20 66] [] σ := by
  refine st_aload_n (pc := 0) hC dX11_thrown_0 rfl (by decide) (by decide) ?_
  refine st_getf (ci := 10) (f := 5) (v := iV (σ 66 5)) (pc := 1) hC dX11_thrown_1 fl_11_64 rfl rfl ?_
  exact st_ireturn (pc := 4) hC dX11_thrown_4 trivial h
theorem bX11_fails_0 {C : Nat → List Vv → Sg → Rs → Sg → Prop} {X : Nat → List Vv → List Vv → Sg → Prop} {Xr : List Vv → Sg → Prop} {Xt : Nat → Sg → Prop} (hC : Clo C 11 cX11_fails (some .int) X Xr Xt) {x1 : Int} {σ : Sg} (h : Xr [iV 0] (upS σ 66 5 x1)) : X 0 [rV 20 66, iV x1] [] σ := by
  refine st_aload_n (pc := 0) hC dX11_fails_0 rfl (by decide) (by decide) ?_
  refine st_iload_n (pc := 1) hC dX11_fails_1 rfl ?_
  refine st_putfI (ci := 10) (f := 5) (pc := 2) hC dX11_fails_2 fl_11_64 rfl rfl ?_
  refine st_iconst (pc := 5) hC dX11_fails_5 (by decide) ?_
  exact st_ireturn (pc := 6) hC dX11_fails_6 trivial h
theorem bX11_within_0 {C : Nat → List Vv → Sg → Rs → Sg → Prop} {X : Nat → List Vv → List Vv → Sg → Prop} {Xr : List Vv → Sg → Prop} {Xt : Nat → Sg → Prop} (hC : Clo C 11 cX11_within (some .boolean) X Xr Xt) {x0 x2 x4 : Int} {σ : Sg} (h : if x0 < x2 then (Xr [iV 0] σ) else (if x4 < x0 then (Xr [iV 0] σ) else (Xr [iV 1] σ))) : X 0 [lV x0, uV, lV x2, uV, lV x4, uV] [] σ := by
  refine st_lload_n (pc := 0) hC dX11_within_0 rfl ?_
  refine st_lload_n (pc := 1) hC dX11_within_1 rfl ?_
  refine st_lcmp_lt (tg := 17) (pc := 2) hC dX11_within_2 dX11_within_3 (by decide) (ite_im h (fun h => ?_) (fun h => ?_))
  · refine st_iconst (pc := 17) hC dX11_within_17 (by decide) ?_
    exact st_ireturn (pc := 18) hC dX11_within_18 (Or.inl rfl) h
  · refine st_lload_n (pc := 6) hC dX11_within_6 rfl ?_
    refine st_lload (pc := 7) hC dX11_within_7 rfl ?_
    refine st_lcmp_gt (tg := 17) (pc := 9) hC dX11_within_9 dX11_within_10 (by decide) (ite_im h (fun h => ?_) (fun h => ?_))
    · refine st_iconst (pc := 17) hC dX11_within_17 (by decide) ?_
      exact st_ireturn (pc := 18) hC dX11_within_18 (Or.inl rfl) h
    · refine st_iconst (pc := 13) hC dX11_within_13 (by decide) ?_
      refine st_goto (tg := 18) (pc := 14) hC dX11_within_14 (by decide) ?_
      exact st_ireturn (pc := 18) hC dX11_within_18 (Or.inr rfl) h
theorem bX11_begins_0 {C : Nat → List Vv → Sg → Rs → Sg → Prop} {X : Nat → List Vv → List Vv → Sg → Prop} {Xr : List Vv → Sg → Prop} {Xt : Nat → Sg → Prop} (hC : Clo C 11 cX11_begins none X Xr Xt) {t0 : Nat} {σ : Sg} (h : X 2 [rV 1000181 t0, iV 0] [] σ) : X 0 [rV 1000181 t0, uV] [] σ := by
  refine st_iconst (pc := 0) hC dX11_begins_0 (by decide) ?_
  refine st_istore_n (L2 := [rV 1000181 t0, iV 0]) (pc := 1) hC dX11_begins_1 (Nat.le_of_ble_eq_true rfl) rfl ?_
  exact h
theorem bX11_begins_2 {C : Nat → List Vv → Sg → Rs → Sg → Prop} {X : Nat → List Vv → List Vv → Sg → Prop} {Xr : List Vv → Sg → Prop} {Xt : Nat → Sg → Prop} (hC : Clo C 11 cX11_begins none X Xr Xt) {x1 : Int} {t0 : Nat} {σ : Sg} (h : if x1 < 181 then (if x1 < 156 then ((0 ≤ x1 ∧ x1 < 181) ∧ (X 2 [rV 1000181 t0, iV (w32 (x1 + 1))] [] (upS σ t0 (x1).toNat 0))) else ((0 ≤ x1 ∧ x1 < 181) ∧ (X 2 [rV 1000181 t0, iV (w32 (x1 + 1))] [] (upS σ t0 (x1).toNat 1)))) else (Xr [] σ)) : X 2 [rV 1000181 t0, iV x1] [] σ := by
  refine st_iload_n (pc := 2) hC dX11_begins_2 rfl ?_
  refine st_sipush (pc := 3) hC dX11_begins_3 (by decide) ?_
  refine st_icmp_ge (tg := 30) (pc := 6) hC dX11_begins_6 (by decide) (ite_im h (fun h => ?_) (fun h => ?_))
  · refine st_aload_n (pc := 9) hC dX11_begins_9 rfl (by decide) (by decide) ?_
    refine st_iload_n (pc := 10) hC dX11_begins_10 rfl ?_
    refine st_iload_n (pc := 11) hC dX11_begins_11 rfl ?_
    refine st_sipush (pc := 12) hC dX11_begins_12 (by decide) ?_
    refine st_icmp_lt (tg := 22) (pc := 15) hC dX11_begins_15 (by decide) (ite_im h (fun h => ?_) (fun h => ?_))
    · refine st_iconst (pc := 22) hC dX11_begins_22 (by decide) ?_
      obtain ⟨hb, h⟩ := h
      refine st_iast (n := 181) (pc := 23) hC dX11_begins_23 (by decide) hb ?_
      refine st_iinc (L2 := [rV 1000181 t0, iV (w32 (x1 + 1))]) (pc := 24) hC dX11_begins_24 rfl (Nat.le_of_ble_eq_true rfl) rfl ?_
      refine st_goto (tg := 2) (pc := 27) hC dX11_begins_27 (by decide) ?_
      exact h
    · refine st_iconst (pc := 18) hC dX11_begins_18 (by decide) ?_
      refine st_goto (tg := 23) (pc := 19) hC dX11_begins_19 (by decide) ?_
      obtain ⟨hb, h⟩ := h
      refine st_iast (n := 181) (pc := 23) hC dX11_begins_23 (by decide) hb ?_
      refine st_iinc (L2 := [rV 1000181 t0, iV (w32 (x1 + 1))]) (pc := 24) hC dX11_begins_24 rfl (Nat.le_of_ble_eq_true rfl) rfl ?_
      refine st_goto (tg := 2) (pc := 27) hC dX11_begins_27 (by decide) ?_
      exact h
  · exact st_return (pc := 30) hC dX11_begins_30 h
theorem bX11_copies_0 {C : Nat → List Vv → Sg → Rs → Sg → Prop} {X : Nat → List Vv → List Vv → Sg → Prop} {Xr : List Vv → Sg → Prop} {Xt : Nat → Sg → Prop} (hC : Clo C 11 cX11_copies none X Xr Xt) {t0 t1 : Nat} {σ : Sg} (h : X 2 [rV 1000181 t0, rV 1000181 t1, iV 0] [] σ) : X 0 [rV 1000181 t0, rV 1000181 t1, uV] [] σ := by
  refine st_iconst (pc := 0) hC dX11_copies_0 (by decide) ?_
  refine st_istore_n (L2 := [rV 1000181 t0, rV 1000181 t1, iV 0]) (pc := 1) hC dX11_copies_1 (Nat.le_of_ble_eq_true rfl) rfl ?_
  exact h
theorem bX11_copies_2 {C : Nat → List Vv → Sg → Rs → Sg → Prop} {X : Nat → List Vv → List Vv → Sg → Prop} {Xr : List Vv → Sg → Prop} {Xt : Nat → Sg → Prop} (hC : Clo C 11 cX11_copies none X Xr Xt) {x2 : Int} {t0 t1 : Nat} {σ : Sg} (h : if x2 < 181 then ((0 ≤ x2 ∧ x2 < 181) ∧ ((0 ≤ x2 ∧ x2 < 181) ∧ (X 2 [rV 1000181 t0, rV 1000181 t1, iV (w32 (x2 + 1))] [] (upS σ t1 (x2).toNat (σ t0 (x2).toNat))))) else (Xr [] σ)) : X 2 [rV 1000181 t0, rV 1000181 t1, iV x2] [] σ := by
  refine st_iload_n (pc := 2) hC dX11_copies_2 rfl ?_
  refine st_sipush (pc := 3) hC dX11_copies_3 (by decide) ?_
  refine st_icmp_ge (tg := 21) (pc := 6) hC dX11_copies_6 (by decide) (ite_im h (fun h => ?_) (fun h => ?_))
  · refine st_aload_n (pc := 9) hC dX11_copies_9 rfl (by decide) (by decide) ?_
    refine st_iload_n (pc := 10) hC dX11_copies_10 rfl ?_
    refine st_aload_n (pc := 11) hC dX11_copies_11 rfl (by decide) (by decide) ?_
    refine st_iload_n (pc := 12) hC dX11_copies_12 rfl ?_
    obtain ⟨hb, h⟩ := h
    refine st_iald (n := 181) (pc := 13) hC dX11_copies_13 (by decide) hb ?_
    obtain ⟨hb, h⟩ := h
    refine st_iast (n := 181) (pc := 14) hC dX11_copies_14 (by decide) hb ?_
    refine st_iinc (L2 := [rV 1000181 t0, rV 1000181 t1, iV (w32 (x2 + 1))]) (pc := 15) hC dX11_copies_15 rfl (Nat.le_of_ble_eq_true rfl) rfl ?_
    refine st_goto (tg := 2) (pc := 18) hC dX11_copies_18 (by decide) ?_
    exact h
  · exact st_return (pc := 21) hC dX11_copies_21 h
theorem bX11_isPrime_0 {C : Nat → List Vv → Sg → Rs → Sg → Prop} {X : Nat → List Vv → List Vv → Sg → Prop} {Xr : List Vv → Sg → Prop} {Xt : Nat → Sg → Prop} (hC : Clo C 11 cX11_isPrime (some .boolean) X Xr Xt) {x0 : Int} {σ : Sg} (h : X 2 [iV x0, iV 2] [] σ) : X 0 [iV x0, uV] [] σ := by
  refine st_iconst (pc := 0) hC dX11_isPrime_0 (by decide) ?_
  refine st_istore_n (L2 := [iV x0, iV 2]) (pc := 1) hC dX11_isPrime_1 (Nat.le_of_ble_eq_true rfl) rfl ?_
  exact h
theorem bX11_isPrime_2 {C : Nat → List Vv → Sg → Rs → Sg → Prop} {X : Nat → List Vv → List Vv → Sg → Prop} {Xr : List Vv → Sg → Prop} {Xt : Nat → Sg → Prop} (hC : Clo C 11 cX11_isPrime (some .boolean) X Xr Xt) {x0 x1 : Int} {σ : Sg} (h : if x0 < (w32 (x1 * x1)) then (if (1 : Int) < x0 then (Xr [iV 1] σ) else (Xr [iV 0] σ)) else (x1 ≠ 0 ∧ (if (x0.tmod x1) = 0 then (Xr [iV 0] σ) else (X 2 [iV x0, iV (w32 (x1 + 1))] [] σ)))) : X 2 [iV x0, iV x1] [] σ := by
  refine st_iload_n (pc := 2) hC dX11_isPrime_2 rfl ?_
  refine st_iload_n (pc := 3) hC dX11_isPrime_3 rfl ?_
  refine st_imul (pc := 4) hC dX11_isPrime_4 ?_
  refine st_iload_n (pc := 5) hC dX11_isPrime_5 rfl ?_
  refine st_icmp_gt (tg := 23) (pc := 6) hC dX11_isPrime_6 (by decide) (ite_im h (fun h => ?_) (fun h => ?_))
  · refine st_iload_n (pc := 23) hC dX11_isPrime_23 rfl ?_
    refine st_iconst (pc := 24) hC dX11_isPrime_24 (by decide) ?_
    refine st_icmp_le (tg := 32) (pc := 25) hC dX11_isPrime_25 (by decide) (ite_im h (fun h => ?_) (fun h => ?_))
    · refine st_iconst (pc := 28) hC dX11_isPrime_28 (by decide) ?_
      refine st_goto (tg := 33) (pc := 29) hC dX11_isPrime_29 (by decide) ?_
      exact st_ireturn (pc := 33) hC dX11_isPrime_33 (Or.inr rfl) h
    · refine st_iconst (pc := 32) hC dX11_isPrime_32 (by decide) ?_
      exact st_ireturn (pc := 33) hC dX11_isPrime_33 (Or.inl rfl) h
  · refine st_iload_n (pc := 9) hC dX11_isPrime_9 rfl ?_
    refine st_iload_n (pc := 10) hC dX11_isPrime_10 rfl ?_
    obtain ⟨h0, h⟩ := h
    refine st_irem (pc := 11) hC dX11_isPrime_11 h0 ?_
    refine st_if_ne (tg := 17) (pc := 12) hC dX11_isPrime_12 (by decide) (ite_im h (fun h => ?_) (fun h => ?_))
    · refine st_iconst (pc := 15) hC dX11_isPrime_15 (by decide) ?_
      exact st_ireturn (pc := 16) hC dX11_isPrime_16 (Or.inl rfl) h
    · refine st_iinc (L2 := [iV x0, iV (w32 (x1 + 1))]) (pc := 17) hC dX11_isPrime_17 rfl (Nat.le_of_ble_eq_true rfl) rfl ?_
      refine st_goto (tg := 2) (pc := 20) hC dX11_isPrime_20 (by decide) ?_
      exact h
theorem bX11_feed_0 {C : Nat → List Vv → Sg → Rs → Sg → Prop} {X : Nat → List Vv → List Vv → Sg → Prop} {Xr : List Vv → Sg → Prop} {Xt : Nat → Sg → Prop} (hC : Clo C 11 cX11_feed (some .int) X Xr Xt) {x1 x2 x3 x4 x5 : Int} {σ : Sg} (h : if (700 : Int) < (w32 (((upS σ 66 5 0) 66 7) + 20)) then (Xr [iV (-1)] (upS σ 66 5 0)) else (X 23 [rV 20 66, iV x1, iV x2, iV x3, iV x4, iV x5, iV 0, uV] [] (upS σ 66 5 0))) : X 0 [rV 20 66, iV x1, iV x2, iV x3, iV x4, iV x5, uV, uV] [] σ := by
  refine st_aload_n (pc := 0) hC dX11_feed_0 rfl (by decide) (by decide) ?_
  refine st_iconst (pc := 1) hC dX11_feed_1 (by decide) ?_
  refine st_putfI (ci := 10) (f := 5) (pc := 2) hC dX11_feed_2 fl_11_64 rfl rfl ?_
  refine st_aload_n (pc := 5) hC dX11_feed_5 rfl (by decide) (by decide) ?_
  refine st_getf (ci := 10) (f := 7) (v := iV ((upS σ 66 5 0) 66 7)) (pc := 6) hC dX11_feed_6 fl_11_67 rfl rfl ?_
  refine st_bipush (pc := 9) hC dX11_feed_9 (by decide) ?_
  refine st_iadd (pc := 11) hC dX11_feed_11 ?_
  refine st_sipush (pc := 12) hC dX11_feed_12 (by decide) ?_
  refine st_icmp_le (tg := 20) (pc := 15) hC dX11_feed_15 (by decide) (ite_im h (fun h => ?_) (fun h => ?_))
  · refine st_iconst (pc := 18) hC dX11_feed_18 (by decide) ?_
    exact st_ireturn (pc := 19) hC dX11_feed_19 trivial h
  · refine st_iconst (pc := 20) hC dX11_feed_20 (by decide) ?_
    refine st_istore (L2 := [rV 20 66, iV x1, iV x2, iV x3, iV x4, iV x5, iV 0, uV]) (pc := 21) hC dX11_feed_21 (Nat.le_of_ble_eq_true rfl) rfl ?_
    exact h
theorem bX11_feed_23 {C : Nat → List Vv → Sg → Rs → Sg → Prop} {X : Nat → List Vv → List Vv → Sg → Prop} {Xr : List Vv → Sg → Prop} {Xt : Nat → Sg → Prop} (hC : Clo C 11 cX11_feed (some .int) X Xr Xt) {x1 x2 x3 x4 x5 x6 : Int} {σ : Sg} (h : if x6 < 20 then (if x6 < 4 then ((0 ≤ (σ 66 7) ∧ (σ 66 7) < 700) ∧ (X 23 [rV 20 66, iV x1, iV x2, iV x3, iV x4, iV x5, iV (w32 (x6 + 1)), uV] [] (upS (upS σ 72 ((σ 66 7)).toNat (iandI (iushrI x1 (w32 (24 - (w32 (8 * (iandI x6 3)))))) 255)) 66 7 (w32 (((upS σ 72 ((σ 66 7)).toNat (iandI (iushrI x1 (w32 (24 - (w32 (8 * (iandI x6 3)))))) 255)) 66 7) + 1))))) else (if x6 < 8 then ((0 ≤ (σ 66 7) ∧ (σ 66 7) < 700) ∧ (X 23 [rV 20 66, iV x1, iV x2, iV x3, iV x4, iV x5, iV (w32 (x6 + 1)), uV] [] (upS (upS σ 72 ((σ 66 7)).toNat (iandI (iushrI x2 (w32 (24 - (w32 (8 * (iandI x6 3)))))) 255)) 66 7 (w32 (((upS σ 72 ((σ 66 7)).toNat (iandI (iushrI x2 (w32 (24 - (w32 (8 * (iandI x6 3)))))) 255)) 66 7) + 1))))) else (if x6 < 12 then ((0 ≤ (σ 66 7) ∧ (σ 66 7) < 700) ∧ (X 23 [rV 20 66, iV x1, iV x2, iV x3, iV x4, iV x5, iV (w32 (x6 + 1)), uV] [] (upS (upS σ 72 ((σ 66 7)).toNat (iandI (iushrI x3 (w32 (24 - (w32 (8 * (iandI x6 3)))))) 255)) 66 7 (w32 (((upS σ 72 ((σ 66 7)).toNat (iandI (iushrI x3 (w32 (24 - (w32 (8 * (iandI x6 3)))))) 255)) 66 7) + 1))))) else (if x6 < 16 then ((0 ≤ (σ 66 7) ∧ (σ 66 7) < 700) ∧ (X 23 [rV 20 66, iV x1, iV x2, iV x3, iV x4, iV x5, iV (w32 (x6 + 1)), uV] [] (upS (upS σ 72 ((σ 66 7)).toNat (iandI (iushrI x4 (w32 (24 - (w32 (8 * (iandI x6 3)))))) 255)) 66 7 (w32 (((upS σ 72 ((σ 66 7)).toNat (iandI (iushrI x4 (w32 (24 - (w32 (8 * (iandI x6 3)))))) 255)) 66 7) + 1))))) else ((0 ≤ (σ 66 7) ∧ (σ 66 7) < 700) ∧ (X 23 [rV 20 66, iV x1, iV x2, iV x3, iV x4, iV x5, iV (w32 (x6 + 1)), uV] [] (upS (upS σ 72 ((σ 66 7)).toNat (iandI (iushrI x5 (w32 (24 - (w32 (8 * (iandI x6 3)))))) 255)) 66 7 (w32 (((upS σ 72 ((σ 66 7)).toNat (iandI (iushrI x5 (w32 (24 - (w32 (8 * (iandI x6 3)))))) 255)) 66 7) + 1))))))))) else (Xr [iV (σ 66 7)] σ)) : X 23 [rV 20 66, iV x1, iV x2, iV x3, iV x4, iV x5, iV x6, uV] [] σ := by
  refine st_iload (pc := 23) hC dX11_feed_23 rfl ?_
  refine st_bipush (pc := 25) hC dX11_feed_25 (by decide) ?_
  refine st_icmp_ge (tg := 120) (pc := 27) hC dX11_feed_27 (by decide) (ite_im h (fun h => ?_) (fun h => ?_))
  · refine st_iload (pc := 30) hC dX11_feed_30 rfl ?_
    refine st_iconst (pc := 32) hC dX11_feed_32 (by decide) ?_
    refine st_icmp_ge (tg := 40) (pc := 33) hC dX11_feed_33 (by decide) (ite_im h (fun h => ?_) (fun h => ?_))
    · refine st_iload_n (pc := 36) hC dX11_feed_36 rfl ?_
      refine st_goto (tg := 76) (pc := 37) hC dX11_feed_37 (by decide) ?_
      refine st_istore (L2 := [rV 20 66, iV x1, iV x2, iV x3, iV x4, iV x5, iV x6, iV x1]) (pc := 76) hC dX11_feed_76 (Nat.le_of_ble_eq_true rfl) rfl ?_
      refine st_aload_n (pc := 78) hC dX11_feed_78 rfl (by decide) (by decide) ?_
      refine st_getf (ci := 10) (f := 6) (v := rV 1000700 72) (pc := 79) hC dX11_feed_79 fl_11_26 rfl rfl ?_
      refine st_aload_n (pc := 82) hC dX11_feed_82 rfl (by decide) (by decide) ?_
      refine st_getf (ci := 10) (f := 7) (v := iV (σ 66 7)) (pc := 83) hC dX11_feed_83 fl_11_67 rfl rfl ?_
      refine st_iload (pc := 86) hC dX11_feed_86 rfl ?_
      refine st_bipush (pc := 88) hC dX11_feed_88 (by decide) ?_
      refine st_bipush (pc := 90) hC dX11_feed_90 (by decide) ?_
      refine st_iload (pc := 92) hC dX11_feed_92 rfl ?_
      refine st_iconst (pc := 94) hC dX11_feed_94 (by decide) ?_
      refine st_iand (pc := 95) hC dX11_feed_95 ?_
      refine st_imul (pc := 96) hC dX11_feed_96 ?_
      refine st_isub (pc := 97) hC dX11_feed_97 ?_
      refine st_iushr (pc := 98) hC dX11_feed_98 ?_
      refine st_sipush (pc := 99) hC dX11_feed_99 (by decide) ?_
      refine st_iand (pc := 102) hC dX11_feed_102 ?_
      obtain ⟨hb, h⟩ := h
      refine st_iast (n := 700) (pc := 103) hC dX11_feed_103 (by decide) hb ?_
      refine st_aload_n (pc := 104) hC dX11_feed_104 rfl (by decide) (by decide) ?_
      refine st_dupR (pc := 105) hC dX11_feed_105 (by decide) (by decide) ?_
      refine st_getf (ci := 10) (f := 7) (v := iV ((upS σ 72 ((σ 66 7)).toNat (iandI (iushrI x1 (w32 (24 - (w32 (8 * (iandI x6 3)))))) 255)) 66 7)) (pc := 106) hC dX11_feed_106 fl_11_67 rfl rfl ?_
      refine st_iconst (pc := 109) hC dX11_feed_109 (by decide) ?_
      refine st_iadd (pc := 110) hC dX11_feed_110 ?_
      refine st_putfI (ci := 10) (f := 7) (pc := 111) hC dX11_feed_111 fl_11_67 rfl rfl ?_
      refine st_iinc (L2 := [rV 20 66, iV x1, iV x2, iV x3, iV x4, iV x5, iV (w32 (x6 + 1)), iV x1]) (pc := 114) hC dX11_feed_114 rfl (Nat.le_of_ble_eq_true rfl) rfl ?_
      refine st_goto (tg := 23) (pc := 117) hC dX11_feed_117 (by decide) ?_
      exact st_fg (L2 := [rV 20 66, iV x1, iV x2, iV x3, iV x4, iV x5, iV (w32 (x6 + 1)), uV]) hC ⟨Or.inl rfl, Or.inl rfl, Or.inl rfl, Or.inl rfl, Or.inl rfl, Or.inl rfl, Or.inl rfl, Or.inr rfl, trivial⟩ h
    · refine st_iload (pc := 40) hC dX11_feed_40 rfl ?_
      refine st_bipush (pc := 42) hC dX11_feed_42 (by decide) ?_
      refine st_icmp_ge (tg := 51) (pc := 44) hC dX11_feed_44 (by decide) (ite_im h (fun h => ?_) (fun h => ?_))
      · refine st_iload_n (pc := 47) hC dX11_feed_47 rfl ?_
        refine st_goto (tg := 76) (pc := 48) hC dX11_feed_48 (by decide) ?_
        refine st_istore (L2 := [rV 20 66, iV x1, iV x2, iV x3, iV x4, iV x5, iV x6, iV x2]) (pc := 76) hC dX11_feed_76 (Nat.le_of_ble_eq_true rfl) rfl ?_
        refine st_aload_n (pc := 78) hC dX11_feed_78 rfl (by decide) (by decide) ?_
        refine st_getf (ci := 10) (f := 6) (v := rV 1000700 72) (pc := 79) hC dX11_feed_79 fl_11_26 rfl rfl ?_
        refine st_aload_n (pc := 82) hC dX11_feed_82 rfl (by decide) (by decide) ?_
        refine st_getf (ci := 10) (f := 7) (v := iV (σ 66 7)) (pc := 83) hC dX11_feed_83 fl_11_67 rfl rfl ?_
        refine st_iload (pc := 86) hC dX11_feed_86 rfl ?_
        refine st_bipush (pc := 88) hC dX11_feed_88 (by decide) ?_
        refine st_bipush (pc := 90) hC dX11_feed_90 (by decide) ?_
        refine st_iload (pc := 92) hC dX11_feed_92 rfl ?_
        refine st_iconst (pc := 94) hC dX11_feed_94 (by decide) ?_
        refine st_iand (pc := 95) hC dX11_feed_95 ?_
        refine st_imul (pc := 96) hC dX11_feed_96 ?_
        refine st_isub (pc := 97) hC dX11_feed_97 ?_
        refine st_iushr (pc := 98) hC dX11_feed_98 ?_
        refine st_sipush (pc := 99) hC dX11_feed_99 (by decide) ?_
        refine st_iand (pc := 102) hC dX11_feed_102 ?_
        obtain ⟨hb, h⟩ := h
        refine st_iast (n := 700) (pc := 103) hC dX11_feed_103 (by decide) hb ?_
        refine st_aload_n (pc := 104) hC dX11_feed_104 rfl (by decide) (by decide) ?_
        refine st_dupR (pc := 105) hC dX11_feed_105 (by decide) (by decide) ?_
        refine st_getf (ci := 10) (f := 7) (v := iV ((upS σ 72 ((σ 66 7)).toNat (iandI (iushrI x2 (w32 (24 - (w32 (8 * (iandI x6 3)))))) 255)) 66 7)) (pc := 106) hC dX11_feed_106 fl_11_67 rfl rfl ?_
        refine st_iconst (pc := 109) hC dX11_feed_109 (by decide) ?_
        refine st_iadd (pc := 110) hC dX11_feed_110 ?_
        refine st_putfI (ci := 10) (f := 7) (pc := 111) hC dX11_feed_111 fl_11_67 rfl rfl ?_
        refine st_iinc (L2 := [rV 20 66, iV x1, iV x2, iV x3, iV x4, iV x5, iV (w32 (x6 + 1)), iV x2]) (pc := 114) hC dX11_feed_114 rfl (Nat.le_of_ble_eq_true rfl) rfl ?_
        refine st_goto (tg := 23) (pc := 117) hC dX11_feed_117 (by decide) ?_
        exact st_fg (L2 := [rV 20 66, iV x1, iV x2, iV x3, iV x4, iV x5, iV (w32 (x6 + 1)), uV]) hC ⟨Or.inl rfl, Or.inl rfl, Or.inl rfl, Or.inl rfl, Or.inl rfl, Or.inl rfl, Or.inl rfl, Or.inr rfl, trivial⟩ h
      · refine st_iload (pc := 51) hC dX11_feed_51 rfl ?_
        refine st_bipush (pc := 53) hC dX11_feed_53 (by decide) ?_
        refine st_icmp_ge (tg := 62) (pc := 55) hC dX11_feed_55 (by decide) (ite_im h (fun h => ?_) (fun h => ?_))
        · refine st_iload_n (pc := 58) hC dX11_feed_58 rfl ?_
          refine st_goto (tg := 76) (pc := 59) hC dX11_feed_59 (by decide) ?_
          refine st_istore (L2 := [rV 20 66, iV x1, iV x2, iV x3, iV x4, iV x5, iV x6, iV x3]) (pc := 76) hC dX11_feed_76 (Nat.le_of_ble_eq_true rfl) rfl ?_
          refine st_aload_n (pc := 78) hC dX11_feed_78 rfl (by decide) (by decide) ?_
          refine st_getf (ci := 10) (f := 6) (v := rV 1000700 72) (pc := 79) hC dX11_feed_79 fl_11_26 rfl rfl ?_
          refine st_aload_n (pc := 82) hC dX11_feed_82 rfl (by decide) (by decide) ?_
          refine st_getf (ci := 10) (f := 7) (v := iV (σ 66 7)) (pc := 83) hC dX11_feed_83 fl_11_67 rfl rfl ?_
          refine st_iload (pc := 86) hC dX11_feed_86 rfl ?_
          refine st_bipush (pc := 88) hC dX11_feed_88 (by decide) ?_
          refine st_bipush (pc := 90) hC dX11_feed_90 (by decide) ?_
          refine st_iload (pc := 92) hC dX11_feed_92 rfl ?_
          refine st_iconst (pc := 94) hC dX11_feed_94 (by decide) ?_
          refine st_iand (pc := 95) hC dX11_feed_95 ?_
          refine st_imul (pc := 96) hC dX11_feed_96 ?_
          refine st_isub (pc := 97) hC dX11_feed_97 ?_
          refine st_iushr (pc := 98) hC dX11_feed_98 ?_
          refine st_sipush (pc := 99) hC dX11_feed_99 (by decide) ?_
          refine st_iand (pc := 102) hC dX11_feed_102 ?_
          obtain ⟨hb, h⟩ := h
          refine st_iast (n := 700) (pc := 103) hC dX11_feed_103 (by decide) hb ?_
          refine st_aload_n (pc := 104) hC dX11_feed_104 rfl (by decide) (by decide) ?_
          refine st_dupR (pc := 105) hC dX11_feed_105 (by decide) (by decide) ?_
          refine st_getf (ci := 10) (f := 7) (v := iV ((upS σ 72 ((σ 66 7)).toNat (iandI (iushrI x3 (w32 (24 - (w32 (8 * (iandI x6 3)))))) 255)) 66 7)) (pc := 106) hC dX11_feed_106 fl_11_67 rfl rfl ?_
          refine st_iconst (pc := 109) hC dX11_feed_109 (by decide) ?_
          refine st_iadd (pc := 110) hC dX11_feed_110 ?_
          refine st_putfI (ci := 10) (f := 7) (pc := 111) hC dX11_feed_111 fl_11_67 rfl rfl ?_
          refine st_iinc (L2 := [rV 20 66, iV x1, iV x2, iV x3, iV x4, iV x5, iV (w32 (x6 + 1)), iV x3]) (pc := 114) hC dX11_feed_114 rfl (Nat.le_of_ble_eq_true rfl) rfl ?_
          refine st_goto (tg := 23) (pc := 117) hC dX11_feed_117 (by decide) ?_
          exact st_fg (L2 := [rV 20 66, iV x1, iV x2, iV x3, iV x4, iV x5, iV (w32 (x6 + 1)), uV]) hC ⟨Or.inl rfl, Or.inl rfl, Or.inl rfl, Or.inl rfl, Or.inl rfl, Or.inl rfl, Or.inl rfl, Or.inr rfl, trivial⟩ h
        · refine st_iload (pc := 62) hC dX11_feed_62 rfl ?_
          refine st_bipush (pc := 64) hC dX11_feed_64 (by decide) ?_
          refine st_icmp_ge (tg := 74) (pc := 66) hC dX11_feed_66 (by decide) (ite_im h (fun h => ?_) (fun h => ?_))
          · refine st_iload (pc := 69) hC dX11_feed_69 rfl ?_
            refine st_goto (tg := 76) (pc := 71) hC dX11_feed_71 (by decide) ?_
            refine st_istore (L2 := [rV 20 66, iV x1, iV x2, iV x3, iV x4, iV x5, iV x6, iV x4]) (pc := 76) hC dX11_feed_76 (Nat.le_of_ble_eq_true rfl) rfl ?_
            refine st_aload_n (pc := 78) hC dX11_feed_78 rfl (by decide) (by decide) ?_
            refine st_getf (ci := 10) (f := 6) (v := rV 1000700 72) (pc := 79) hC dX11_feed_79 fl_11_26 rfl rfl ?_
            refine st_aload_n (pc := 82) hC dX11_feed_82 rfl (by decide) (by decide) ?_
            refine st_getf (ci := 10) (f := 7) (v := iV (σ 66 7)) (pc := 83) hC dX11_feed_83 fl_11_67 rfl rfl ?_
            refine st_iload (pc := 86) hC dX11_feed_86 rfl ?_
            refine st_bipush (pc := 88) hC dX11_feed_88 (by decide) ?_
            refine st_bipush (pc := 90) hC dX11_feed_90 (by decide) ?_
            refine st_iload (pc := 92) hC dX11_feed_92 rfl ?_
            refine st_iconst (pc := 94) hC dX11_feed_94 (by decide) ?_
            refine st_iand (pc := 95) hC dX11_feed_95 ?_
            refine st_imul (pc := 96) hC dX11_feed_96 ?_
            refine st_isub (pc := 97) hC dX11_feed_97 ?_
            refine st_iushr (pc := 98) hC dX11_feed_98 ?_
            refine st_sipush (pc := 99) hC dX11_feed_99 (by decide) ?_
            refine st_iand (pc := 102) hC dX11_feed_102 ?_
            obtain ⟨hb, h⟩ := h
            refine st_iast (n := 700) (pc := 103) hC dX11_feed_103 (by decide) hb ?_
            refine st_aload_n (pc := 104) hC dX11_feed_104 rfl (by decide) (by decide) ?_
            refine st_dupR (pc := 105) hC dX11_feed_105 (by decide) (by decide) ?_
            refine st_getf (ci := 10) (f := 7) (v := iV ((upS σ 72 ((σ 66 7)).toNat (iandI (iushrI x4 (w32 (24 - (w32 (8 * (iandI x6 3)))))) 255)) 66 7)) (pc := 106) hC dX11_feed_106 fl_11_67 rfl rfl ?_
            refine st_iconst (pc := 109) hC dX11_feed_109 (by decide) ?_
            refine st_iadd (pc := 110) hC dX11_feed_110 ?_
            refine st_putfI (ci := 10) (f := 7) (pc := 111) hC dX11_feed_111 fl_11_67 rfl rfl ?_
            refine st_iinc (L2 := [rV 20 66, iV x1, iV x2, iV x3, iV x4, iV x5, iV (w32 (x6 + 1)), iV x4]) (pc := 114) hC dX11_feed_114 rfl (Nat.le_of_ble_eq_true rfl) rfl ?_
            refine st_goto (tg := 23) (pc := 117) hC dX11_feed_117 (by decide) ?_
            exact st_fg (L2 := [rV 20 66, iV x1, iV x2, iV x3, iV x4, iV x5, iV (w32 (x6 + 1)), uV]) hC ⟨Or.inl rfl, Or.inl rfl, Or.inl rfl, Or.inl rfl, Or.inl rfl, Or.inl rfl, Or.inl rfl, Or.inr rfl, trivial⟩ h
          · refine st_iload (pc := 74) hC dX11_feed_74 rfl ?_
            refine st_istore (L2 := [rV 20 66, iV x1, iV x2, iV x3, iV x4, iV x5, iV x6, iV x5]) (pc := 76) hC dX11_feed_76 (Nat.le_of_ble_eq_true rfl) rfl ?_
            refine st_aload_n (pc := 78) hC dX11_feed_78 rfl (by decide) (by decide) ?_
            refine st_getf (ci := 10) (f := 6) (v := rV 1000700 72) (pc := 79) hC dX11_feed_79 fl_11_26 rfl rfl ?_
            refine st_aload_n (pc := 82) hC dX11_feed_82 rfl (by decide) (by decide) ?_
            refine st_getf (ci := 10) (f := 7) (v := iV (σ 66 7)) (pc := 83) hC dX11_feed_83 fl_11_67 rfl rfl ?_
            refine st_iload (pc := 86) hC dX11_feed_86 rfl ?_
            refine st_bipush (pc := 88) hC dX11_feed_88 (by decide) ?_
            refine st_bipush (pc := 90) hC dX11_feed_90 (by decide) ?_
            refine st_iload (pc := 92) hC dX11_feed_92 rfl ?_
            refine st_iconst (pc := 94) hC dX11_feed_94 (by decide) ?_
            refine st_iand (pc := 95) hC dX11_feed_95 ?_
            refine st_imul (pc := 96) hC dX11_feed_96 ?_
            refine st_isub (pc := 97) hC dX11_feed_97 ?_
            refine st_iushr (pc := 98) hC dX11_feed_98 ?_
            refine st_sipush (pc := 99) hC dX11_feed_99 (by decide) ?_
            refine st_iand (pc := 102) hC dX11_feed_102 ?_
            obtain ⟨hb, h⟩ := h
            refine st_iast (n := 700) (pc := 103) hC dX11_feed_103 (by decide) hb ?_
            refine st_aload_n (pc := 104) hC dX11_feed_104 rfl (by decide) (by decide) ?_
            refine st_dupR (pc := 105) hC dX11_feed_105 (by decide) (by decide) ?_
            refine st_getf (ci := 10) (f := 7) (v := iV ((upS σ 72 ((σ 66 7)).toNat (iandI (iushrI x5 (w32 (24 - (w32 (8 * (iandI x6 3)))))) 255)) 66 7)) (pc := 106) hC dX11_feed_106 fl_11_67 rfl rfl ?_
            refine st_iconst (pc := 109) hC dX11_feed_109 (by decide) ?_
            refine st_iadd (pc := 110) hC dX11_feed_110 ?_
            refine st_putfI (ci := 10) (f := 7) (pc := 111) hC dX11_feed_111 fl_11_67 rfl rfl ?_
            refine st_iinc (L2 := [rV 20 66, iV x1, iV x2, iV x3, iV x4, iV x5, iV (w32 (x6 + 1)), iV x5]) (pc := 114) hC dX11_feed_114 rfl (Nat.le_of_ble_eq_true rfl) rfl ?_
            refine st_goto (tg := 23) (pc := 117) hC dX11_feed_117 (by decide) ?_
            exact st_fg (L2 := [rV 20 66, iV x1, iV x2, iV x3, iV x4, iV x5, iV (w32 (x6 + 1)), uV]) hC ⟨Or.inl rfl, Or.inl rfl, Or.inl rfl, Or.inl rfl, Or.inl rfl, Or.inl rfl, Or.inl rfl, Or.inr rfl, trivial⟩ h
  · refine st_aload_n (pc := 120) hC dX11_feed_120 rfl (by decide) (by decide) ?_
    refine st_getf (ci := 10) (f := 7) (v := iV (σ 66 7)) (pc := 121) hC dX11_feed_121 fl_11_67 rfl rfl ?_
    exact st_ireturn (pc := 124) hC dX11_feed_124 trivial h
theorem bX11_see_0 {C : Nat → List Vv → Sg → Rs → Sg → Prop} {X : Nat → List Vv → List Vv → Sg → Prop} {Xr : List Vv → Sg → Prop} {Xt : Nat → Sg → Prop} (hC : Clo C 11 cX11_see (some .int) X Xr Xt) {x1 : Int} {σ : Sg} (h : if x1 < (σ 66 8) then ((0 ≤ x1 ∧ x1 < 700) ∧ (Xr [iV (σ 72 (x1).toNat)] σ)) else (Xr [iV 0] σ)) : X 0 [rV 20 66, iV x1] [] σ := by
  refine st_iload_n (pc := 0) hC dX11_see_0 rfl ?_
  refine st_aload_n (pc := 1) hC dX11_see_1 rfl (by decide) (by decide) ?_
  refine st_getf (ci := 10) (f := 8) (v := iV (σ 66 8)) (pc := 2) hC dX11_see_2 fl_11_70 rfl rfl ?_
  refine st_icmp_ge (tg := 17) (pc := 5) hC dX11_see_5 (by decide) (ite_im h (fun h => ?_) (fun h => ?_))
  · refine st_aload_n (pc := 8) hC dX11_see_8 rfl (by decide) (by decide) ?_
    refine st_getf (ci := 10) (f := 6) (v := rV 1000700 72) (pc := 9) hC dX11_see_9 fl_11_26 rfl rfl ?_
    refine st_iload_n (pc := 12) hC dX11_see_12 rfl ?_
    obtain ⟨hb, h⟩ := h
    refine st_iald (n := 700) (pc := 13) hC dX11_see_13 (by decide) hb ?_
    refine st_goto (tg := 18) (pc := 14) hC dX11_see_14 (by decide) ?_
    exact st_ireturn (pc := 18) hC dX11_see_18 trivial h
  · refine st_iconst (pc := 17) hC dX11_see_17 (by decide) ?_
    exact st_ireturn (pc := 18) hC dX11_see_18 trivial h
theorem bX11_isLetter_0 {C : Nat → List Vv → Sg → Rs → Sg → Prop} {X : Nat → List Vv → List Vv → Sg → Prop} {Xr : List Vv → Sg → Prop} {Xt : Nat → Sg → Prop} (hC : Clo C 11 cX11_isLetter (some .boolean) X Xr Xt) {x0 : Int} {σ : Sg} (h : if x0 < 97 then (Xr [iV 0] σ) else (if (122 : Int) < x0 then (Xr [iV 0] σ) else (Xr [iV 1] σ))) : X 0 [iV x0] [] σ := by
  refine st_iload_n (pc := 0) hC dX11_isLetter_0 rfl ?_
  refine st_bipush (pc := 1) hC dX11_isLetter_1 (by decide) ?_
  refine st_icmp_lt (tg := 16) (pc := 3) hC dX11_isLetter_3 (by decide) (ite_im h (fun h => ?_) (fun h => ?_))
  · refine st_iconst (pc := 16) hC dX11_isLetter_16 (by decide) ?_
    exact st_ireturn (pc := 17) hC dX11_isLetter_17 (Or.inl rfl) h
  · refine st_iload_n (pc := 6) hC dX11_isLetter_6 rfl ?_
    refine st_bipush (pc := 7) hC dX11_isLetter_7 (by decide) ?_
    refine st_icmp_gt (tg := 16) (pc := 9) hC dX11_isLetter_9 (by decide) (ite_im h (fun h => ?_) (fun h => ?_))
    · refine st_iconst (pc := 16) hC dX11_isLetter_16 (by decide) ?_
      exact st_ireturn (pc := 17) hC dX11_isLetter_17 (Or.inl rfl) h
    · refine st_iconst (pc := 12) hC dX11_isLetter_12 (by decide) ?_
      refine st_goto (tg := 17) (pc := 13) hC dX11_isLetter_13 (by decide) ?_
      exact st_ireturn (pc := 17) hC dX11_isLetter_17 (Or.inr rfl) h
theorem bX11_isDigit_0 {C : Nat → List Vv → Sg → Rs → Sg → Prop} {X : Nat → List Vv → List Vv → Sg → Prop} {Xr : List Vv → Sg → Prop} {Xt : Nat → Sg → Prop} (hC : Clo C 11 cX11_isDigit (some .boolean) X Xr Xt) {x0 : Int} {σ : Sg} (h : if x0 < 48 then (Xr [iV 0] σ) else (if (57 : Int) < x0 then (Xr [iV 0] σ) else (Xr [iV 1] σ))) : X 0 [iV x0] [] σ := by
  refine st_iload_n (pc := 0) hC dX11_isDigit_0 rfl ?_
  refine st_bipush (pc := 1) hC dX11_isDigit_1 (by decide) ?_
  refine st_icmp_lt (tg := 16) (pc := 3) hC dX11_isDigit_3 (by decide) (ite_im h (fun h => ?_) (fun h => ?_))
  · refine st_iconst (pc := 16) hC dX11_isDigit_16 (by decide) ?_
    exact st_ireturn (pc := 17) hC dX11_isDigit_17 (Or.inl rfl) h
  · refine st_iload_n (pc := 6) hC dX11_isDigit_6 rfl ?_
    refine st_bipush (pc := 7) hC dX11_isDigit_7 (by decide) ?_
    refine st_icmp_gt (tg := 16) (pc := 9) hC dX11_isDigit_9 (by decide) (ite_im h (fun h => ?_) (fun h => ?_))
    · refine st_iconst (pc := 16) hC dX11_isDigit_16 (by decide) ?_
      exact st_ireturn (pc := 17) hC dX11_isDigit_17 (Or.inl rfl) h
    · refine st_iconst (pc := 12) hC dX11_isDigit_12 (by decide) ?_
      refine st_goto (tg := 17) (pc := 13) hC dX11_isDigit_13 (by decide) ?_
      exact st_ireturn (pc := 17) hC dX11_isDigit_17 (Or.inr rfl) h
theorem bX11_reads_0 {C : Nat → List Vv → Sg → Rs → Sg → Prop} {X : Nat → List Vv → List Vv → Sg → Prop} {Xr : List Vv → Sg → Prop} {Xt : Nat → Sg → Prop} (hC : Clo C 11 cX11_reads none X Xr Xt) {σ : Sg} (h : if (σ 66 9) < (σ 66 8) then ((0 ≤ (σ 66 9) ∧ (σ 66 9) < 700) ∧ (if (σ 72 ((σ 66 9)).toNat) = 32 then (X 0 [rV 20 66, uV] [] (upS σ 66 9 (w32 ((σ 66 9) + 1)))) else ((0 ≤ (σ 66 9) ∧ (σ 66 9) < 700) ∧ (if (σ 72 ((σ 66 9)).toNat) = 10 then (X 0 [rV 20 66, uV] [] (upS σ 66 9 (w32 ((σ 66 9) + 1)))) else (if ((upS σ 66 10 (σ 66 9)) 66 9) < ((upS σ 66 10 (σ 66 9)) 66 8) then ((0 ≤ ((upS σ 66 10 (σ 66 9)) 66 9) ∧ ((upS σ 66 10 (σ 66 9)) 66 9) < 700) ∧ (∃ v1 : Int, C MX11_isLetter [iV ((upS σ 66 10 (σ 66 9)) 72 (((upS σ 66 10 (σ 66 9)) 66 9)).toNat)] (upS σ 66 10 (σ 66 9)) (.inl [iV v1]) (upS σ 66 10 (σ 66 9)) ∧ (if v1 = 0 then (∃ v2 : Int, C MX11_isDigit [iV ((upS σ 66 10 (σ 66 9)) 72 (((upS σ 66 10 (σ 66 9)) 66 9)).toNat)] (upS σ 66 10 (σ 66 9)) (.inl [iV v2]) (upS σ 66 10 (σ 66 9)) ∧ (if v2 = 0 then (if ((upS σ 66 10 (σ 66 9)) 72 (((upS σ 66 10 (σ 66 9)) 66 9)).toNat) = 59 then (Xr [] (upS (upS (upS σ 66 10 (σ 66 9)) 66 11 3) 66 9 (w32 (((upS (upS σ 66 10 (σ 66 9)) 66 11 3) 66 9) + 1)))) else (Xr [] (upS (upS (upS σ 66 10 (σ 66 9)) 66 11 4) 66 9 (w32 (((upS (upS σ 66 10 (σ 66 9)) 66 11 4) 66 9) + 1))))) else (X 141 [rV 20 66, iV ((upS σ 66 10 (σ 66 9)) 72 (((upS σ 66 10 (σ 66 9)) 66 9)).toNat)] [] (upS (upS σ 66 10 (σ 66 9)) 66 12 0)))) else (X 94 [rV 20 66, iV ((upS σ 66 10 (σ 66 9)) 72 (((upS σ 66 10 (σ 66 9)) 66 9)).toNat)] [] (upS σ 66 10 (σ 66 9)))))) else (Xr [] (upS (upS σ 66 10 (σ 66 9)) 66 11 0))))))) else (if ((upS σ 66 10 (σ 66 9)) 66 9) < ((upS σ 66 10 (σ 66 9)) 66 8) then ((0 ≤ ((upS σ 66 10 (σ 66 9)) 66 9) ∧ ((upS σ 66 10 (σ 66 9)) 66 9) < 700) ∧ (∃ v3 : Int, C MX11_isLetter [iV ((upS σ 66 10 (σ 66 9)) 72 (((upS σ 66 10 (σ 66 9)) 66 9)).toNat)] (upS σ 66 10 (σ 66 9)) (.inl [iV v3]) (upS σ 66 10 (σ 66 9)) ∧ (if v3 = 0 then (∃ v4 : Int, C MX11_isDigit [iV ((upS σ 66 10 (σ 66 9)) 72 (((upS σ 66 10 (σ 66 9)) 66 9)).toNat)] (upS σ 66 10 (σ 66 9)) (.inl [iV v4]) (upS σ 66 10 (σ 66 9)) ∧ (if v4 = 0 then (if ((upS σ 66 10 (σ 66 9)) 72 (((upS σ 66 10 (σ 66 9)) 66 9)).toNat) = 59 then (Xr [] (upS (upS (upS σ 66 10 (σ 66 9)) 66 11 3) 66 9 (w32 (((upS (upS σ 66 10 (σ 66 9)) 66 11 3) 66 9) + 1)))) else (Xr [] (upS (upS (upS σ 66 10 (σ 66 9)) 66 11 4) 66 9 (w32 (((upS (upS σ 66 10 (σ 66 9)) 66 11 4) 66 9) + 1))))) else (X 141 [rV 20 66, iV ((upS σ 66 10 (σ 66 9)) 72 (((upS σ 66 10 (σ 66 9)) 66 9)).toNat)] [] (upS (upS σ 66 10 (σ 66 9)) 66 12 0)))) else (X 94 [rV 20 66, iV ((upS σ 66 10 (σ 66 9)) 72 (((upS σ 66 10 (σ 66 9)) 66 9)).toNat)] [] (upS σ 66 10 (σ 66 9)))))) else (Xr [] (upS (upS σ 66 10 (σ 66 9)) 66 11 0)))) : X 0 [rV 20 66, uV] [] σ := by
  refine st_aload_n (pc := 0) hC dX11_reads_0 rfl (by decide) (by decide) ?_
  refine st_getf (ci := 10) (f := 9) (v := iV (σ 66 9)) (pc := 1) hC dX11_reads_1 fl_11_73 rfl rfl ?_
  refine st_aload_n (pc := 4) hC dX11_reads_4 rfl (by decide) (by decide) ?_
  refine st_getf (ci := 10) (f := 8) (v := iV (σ 66 8)) (pc := 5) hC dX11_reads_5 fl_11_70 rfl rfl ?_
  refine st_icmp_ge (tg := 52) (pc := 8) hC dX11_reads_8 (by decide) (ite_im h (fun h => ?_) (fun h => ?_))
  · refine st_aload_n (pc := 11) hC dX11_reads_11 rfl (by decide) (by decide) ?_
    refine st_getf (ci := 10) (f := 6) (v := rV 1000700 72) (pc := 12) hC dX11_reads_12 fl_11_26 rfl rfl ?_
    refine st_aload_n (pc := 15) hC dX11_reads_15 rfl (by decide) (by decide) ?_
    refine st_getf (ci := 10) (f := 9) (v := iV (σ 66 9)) (pc := 16) hC dX11_reads_16 fl_11_73 rfl rfl ?_
    obtain ⟨hb, h⟩ := h
    refine st_iald (n := 700) (pc := 19) hC dX11_reads_19 (by decide) hb ?_
    refine st_bipush (pc := 20) hC dX11_reads_20 (by decide) ?_
    refine st_icmp_eq (tg := 39) (pc := 22) hC dX11_reads_22 (by decide) (ite_im h (fun h => ?_) (fun h => ?_))
    · refine st_aload_n (pc := 39) hC dX11_reads_39 rfl (by decide) (by decide) ?_
      refine st_dupR (pc := 40) hC dX11_reads_40 (by decide) (by decide) ?_
      refine st_getf (ci := 10) (f := 9) (v := iV (σ 66 9)) (pc := 41) hC dX11_reads_41 fl_11_73 rfl rfl ?_
      refine st_iconst (pc := 44) hC dX11_reads_44 (by decide) ?_
      refine st_iadd (pc := 45) hC dX11_reads_45 ?_
      refine st_putfI (ci := 10) (f := 9) (pc := 46) hC dX11_reads_46 fl_11_73 rfl rfl ?_
      refine st_goto (tg := 0) (pc := 49) hC dX11_reads_49 (by decide) ?_
      exact h
    · refine st_aload_n (pc := 25) hC dX11_reads_25 rfl (by decide) (by decide) ?_
      refine st_getf (ci := 10) (f := 6) (v := rV 1000700 72) (pc := 26) hC dX11_reads_26 fl_11_26 rfl rfl ?_
      refine st_aload_n (pc := 29) hC dX11_reads_29 rfl (by decide) (by decide) ?_
      refine st_getf (ci := 10) (f := 9) (v := iV (σ 66 9)) (pc := 30) hC dX11_reads_30 fl_11_73 rfl rfl ?_
      obtain ⟨hb, h⟩ := h
      refine st_iald (n := 700) (pc := 33) hC dX11_reads_33 (by decide) hb ?_
      refine st_bipush (pc := 34) hC dX11_reads_34 (by decide) ?_
      refine st_icmp_ne (tg := 52) (pc := 36) hC dX11_reads_36 (by decide) (ite_im h (fun h => ?_) (fun h => ?_))
      · refine st_aload_n (pc := 39) hC dX11_reads_39 rfl (by decide) (by decide) ?_
        refine st_dupR (pc := 40) hC dX11_reads_40 (by decide) (by decide) ?_
        refine st_getf (ci := 10) (f := 9) (v := iV (σ 66 9)) (pc := 41) hC dX11_reads_41 fl_11_73 rfl rfl ?_
        refine st_iconst (pc := 44) hC dX11_reads_44 (by decide) ?_
        refine st_iadd (pc := 45) hC dX11_reads_45 ?_
        refine st_putfI (ci := 10) (f := 9) (pc := 46) hC dX11_reads_46 fl_11_73 rfl rfl ?_
        refine st_goto (tg := 0) (pc := 49) hC dX11_reads_49 (by decide) ?_
        exact h
      · refine st_aload_n (pc := 52) hC dX11_reads_52 rfl (by decide) (by decide) ?_
        refine st_aload_n (pc := 53) hC dX11_reads_53 rfl (by decide) (by decide) ?_
        refine st_getf (ci := 10) (f := 9) (v := iV (σ 66 9)) (pc := 54) hC dX11_reads_54 fl_11_73 rfl rfl ?_
        refine st_putfI (ci := 10) (f := 10) (pc := 57) hC dX11_reads_57 fl_11_76 rfl rfl ?_
        refine st_aload_n (pc := 60) hC dX11_reads_60 rfl (by decide) (by decide) ?_
        refine st_getf (ci := 10) (f := 9) (v := iV ((upS σ 66 10 (σ 66 9)) 66 9)) (pc := 61) hC dX11_reads_61 fl_11_73 rfl rfl ?_
        refine st_aload_n (pc := 64) hC dX11_reads_64 rfl (by decide) (by decide) ?_
        refine st_getf (ci := 10) (f := 8) (v := iV ((upS σ 66 10 (σ 66 9)) 66 8)) (pc := 65) hC dX11_reads_65 fl_11_70 rfl rfl ?_
        refine st_icmp_lt (tg := 77) (pc := 68) hC dX11_reads_68 (by decide) (ite_im h (fun h => ?_) (fun h => ?_))
        · refine st_aload_n (pc := 77) hC dX11_reads_77 rfl (by decide) (by decide) ?_
          refine st_getf (ci := 10) (f := 6) (v := rV 1000700 72) (pc := 78) hC dX11_reads_78 fl_11_26 rfl rfl ?_
          refine st_aload_n (pc := 81) hC dX11_reads_81 rfl (by decide) (by decide) ?_
          refine st_getf (ci := 10) (f := 9) (v := iV ((upS σ 66 10 (σ 66 9)) 66 9)) (pc := 82) hC dX11_reads_82 fl_11_73 rfl rfl ?_
          obtain ⟨hb, h⟩ := h
          refine st_iald (n := 700) (pc := 85) hC dX11_reads_85 (by decide) hb ?_
          refine st_istore_n (L2 := [rV 20 66, iV ((upS σ 66 10 (σ 66 9)) 72 (((upS σ 66 10 (σ 66 9)) 66 9)).toNat)]) (pc := 86) hC dX11_reads_86 (Nat.le_of_ble_eq_true rfl) rfl ?_
          refine st_iload_n (pc := 87) hC dX11_reads_87 rfl ?_
          obtain ⟨v1, hq, h⟩ := h
          refine st_invS (As := [iV ((upS σ 66 10 (σ 66 9)) 72 (((upS σ 66 10 (σ 66 9)) 66 9)).toNat)]) (v := [iV v1]) (S := []) (pc := 88) hC dX11_reads_88 cl_11_82 rfl rfl (Nat.le_of_ble_eq_true rfl) hq ?_
          refine st_if_eq (tg := 129) (pc := 91) hC dX11_reads_91 (by decide) (ite_im h (fun h => ?_) (fun h => ?_))
          · refine st_iload_n (pc := 129) hC dX11_reads_129 rfl ?_
            obtain ⟨v2, hq, h⟩ := h
            refine st_invS (As := [iV ((upS σ 66 10 (σ 66 9)) 72 (((upS σ 66 10 (σ 66 9)) 66 9)).toNat)]) (v := [iV v2]) (S := []) (pc := 130) hC dX11_reads_130 cl_11_90 rfl rfl (Nat.le_of_ble_eq_true rfl) hq ?_
            refine st_if_eq (tg := 237) (pc := 133) hC dX11_reads_133 (by decide) (ite_im h (fun h => ?_) (fun h => ?_))
            · refine st_aload_n (pc := 237) hC dX11_reads_237 rfl (by decide) (by decide) ?_
              refine st_iload_n (pc := 238) hC dX11_reads_238 rfl ?_
              refine st_bipush (pc := 239) hC dX11_reads_239 (by decide) ?_
              refine st_icmp_ne (tg := 248) (pc := 241) hC dX11_reads_241 (by decide) (ite_im h (fun h => ?_) (fun h => ?_))
              · refine st_iconst (pc := 244) hC dX11_reads_244 (by decide) ?_
                refine st_goto (tg := 249) (pc := 245) hC dX11_reads_245 (by decide) ?_
                refine st_putfI (ci := 10) (f := 11) (pc := 249) hC dX11_reads_249 fl_11_79 rfl rfl ?_
                refine st_aload_n (pc := 252) hC dX11_reads_252 rfl (by decide) (by decide) ?_
                refine st_dupR (pc := 253) hC dX11_reads_253 (by decide) (by decide) ?_
                refine st_getf (ci := 10) (f := 9) (v := iV ((upS (upS σ 66 10 (σ 66 9)) 66 11 3) 66 9)) (pc := 254) hC dX11_reads_254 fl_11_73 rfl rfl ?_
                refine st_iconst (pc := 257) hC dX11_reads_257 (by decide) ?_
                refine st_iadd (pc := 258) hC dX11_reads_258 ?_
                refine st_putfI (ci := 10) (f := 9) (pc := 259) hC dX11_reads_259 fl_11_73 rfl rfl ?_
                exact st_return (pc := 262) hC dX11_reads_262 h
              · refine st_iconst (pc := 248) hC dX11_reads_248 (by decide) ?_
                refine st_putfI (ci := 10) (f := 11) (pc := 249) hC dX11_reads_249 fl_11_79 rfl rfl ?_
                refine st_aload_n (pc := 252) hC dX11_reads_252 rfl (by decide) (by decide) ?_
                refine st_dupR (pc := 253) hC dX11_reads_253 (by decide) (by decide) ?_
                refine st_getf (ci := 10) (f := 9) (v := iV ((upS (upS σ 66 10 (σ 66 9)) 66 11 4) 66 9)) (pc := 254) hC dX11_reads_254 fl_11_73 rfl rfl ?_
                refine st_iconst (pc := 257) hC dX11_reads_257 (by decide) ?_
                refine st_iadd (pc := 258) hC dX11_reads_258 ?_
                refine st_putfI (ci := 10) (f := 9) (pc := 259) hC dX11_reads_259 fl_11_73 rfl rfl ?_
                exact st_return (pc := 262) hC dX11_reads_262 h
            · refine st_aload_n (pc := 136) hC dX11_reads_136 rfl (by decide) (by decide) ?_
              refine st_iconst (pc := 137) hC dX11_reads_137 (by decide) ?_
              refine st_putfI (ci := 10) (f := 12) (pc := 138) hC dX11_reads_138 fl_11_93 rfl rfl ?_
              exact h
          · exact h
        · refine st_aload_n (pc := 71) hC dX11_reads_71 rfl (by decide) (by decide) ?_
          refine st_iconst (pc := 72) hC dX11_reads_72 (by decide) ?_
          refine st_putfI (ci := 10) (f := 11) (pc := 73) hC dX11_reads_73 fl_11_79 rfl rfl ?_
          exact st_return (pc := 76) hC dX11_reads_76 h
  · refine st_aload_n (pc := 52) hC dX11_reads_52 rfl (by decide) (by decide) ?_
    refine st_aload_n (pc := 53) hC dX11_reads_53 rfl (by decide) (by decide) ?_
    refine st_getf (ci := 10) (f := 9) (v := iV (σ 66 9)) (pc := 54) hC dX11_reads_54 fl_11_73 rfl rfl ?_
    refine st_putfI (ci := 10) (f := 10) (pc := 57) hC dX11_reads_57 fl_11_76 rfl rfl ?_
    refine st_aload_n (pc := 60) hC dX11_reads_60 rfl (by decide) (by decide) ?_
    refine st_getf (ci := 10) (f := 9) (v := iV ((upS σ 66 10 (σ 66 9)) 66 9)) (pc := 61) hC dX11_reads_61 fl_11_73 rfl rfl ?_
    refine st_aload_n (pc := 64) hC dX11_reads_64 rfl (by decide) (by decide) ?_
    refine st_getf (ci := 10) (f := 8) (v := iV ((upS σ 66 10 (σ 66 9)) 66 8)) (pc := 65) hC dX11_reads_65 fl_11_70 rfl rfl ?_
    refine st_icmp_lt (tg := 77) (pc := 68) hC dX11_reads_68 (by decide) (ite_im h (fun h => ?_) (fun h => ?_))
    · refine st_aload_n (pc := 77) hC dX11_reads_77 rfl (by decide) (by decide) ?_
      refine st_getf (ci := 10) (f := 6) (v := rV 1000700 72) (pc := 78) hC dX11_reads_78 fl_11_26 rfl rfl ?_
      refine st_aload_n (pc := 81) hC dX11_reads_81 rfl (by decide) (by decide) ?_
      refine st_getf (ci := 10) (f := 9) (v := iV ((upS σ 66 10 (σ 66 9)) 66 9)) (pc := 82) hC dX11_reads_82 fl_11_73 rfl rfl ?_
      obtain ⟨hb, h⟩ := h
      refine st_iald (n := 700) (pc := 85) hC dX11_reads_85 (by decide) hb ?_
      refine st_istore_n (L2 := [rV 20 66, iV ((upS σ 66 10 (σ 66 9)) 72 (((upS σ 66 10 (σ 66 9)) 66 9)).toNat)]) (pc := 86) hC dX11_reads_86 (Nat.le_of_ble_eq_true rfl) rfl ?_
      refine st_iload_n (pc := 87) hC dX11_reads_87 rfl ?_
      obtain ⟨v3, hq, h⟩ := h
      refine st_invS (As := [iV ((upS σ 66 10 (σ 66 9)) 72 (((upS σ 66 10 (σ 66 9)) 66 9)).toNat)]) (v := [iV v3]) (S := []) (pc := 88) hC dX11_reads_88 cl_11_82 rfl rfl (Nat.le_of_ble_eq_true rfl) hq ?_
      refine st_if_eq (tg := 129) (pc := 91) hC dX11_reads_91 (by decide) (ite_im h (fun h => ?_) (fun h => ?_))
      · refine st_iload_n (pc := 129) hC dX11_reads_129 rfl ?_
        obtain ⟨v4, hq, h⟩ := h
        refine st_invS (As := [iV ((upS σ 66 10 (σ 66 9)) 72 (((upS σ 66 10 (σ 66 9)) 66 9)).toNat)]) (v := [iV v4]) (S := []) (pc := 130) hC dX11_reads_130 cl_11_90 rfl rfl (Nat.le_of_ble_eq_true rfl) hq ?_
        refine st_if_eq (tg := 237) (pc := 133) hC dX11_reads_133 (by decide) (ite_im h (fun h => ?_) (fun h => ?_))
        · refine st_aload_n (pc := 237) hC dX11_reads_237 rfl (by decide) (by decide) ?_
          refine st_iload_n (pc := 238) hC dX11_reads_238 rfl ?_
          refine st_bipush (pc := 239) hC dX11_reads_239 (by decide) ?_
          refine st_icmp_ne (tg := 248) (pc := 241) hC dX11_reads_241 (by decide) (ite_im h (fun h => ?_) (fun h => ?_))
          · refine st_iconst (pc := 244) hC dX11_reads_244 (by decide) ?_
            refine st_goto (tg := 249) (pc := 245) hC dX11_reads_245 (by decide) ?_
            refine st_putfI (ci := 10) (f := 11) (pc := 249) hC dX11_reads_249 fl_11_79 rfl rfl ?_
            refine st_aload_n (pc := 252) hC dX11_reads_252 rfl (by decide) (by decide) ?_
            refine st_dupR (pc := 253) hC dX11_reads_253 (by decide) (by decide) ?_
            refine st_getf (ci := 10) (f := 9) (v := iV ((upS (upS σ 66 10 (σ 66 9)) 66 11 3) 66 9)) (pc := 254) hC dX11_reads_254 fl_11_73 rfl rfl ?_
            refine st_iconst (pc := 257) hC dX11_reads_257 (by decide) ?_
            refine st_iadd (pc := 258) hC dX11_reads_258 ?_
            refine st_putfI (ci := 10) (f := 9) (pc := 259) hC dX11_reads_259 fl_11_73 rfl rfl ?_
            exact st_return (pc := 262) hC dX11_reads_262 h
          · refine st_iconst (pc := 248) hC dX11_reads_248 (by decide) ?_
            refine st_putfI (ci := 10) (f := 11) (pc := 249) hC dX11_reads_249 fl_11_79 rfl rfl ?_
            refine st_aload_n (pc := 252) hC dX11_reads_252 rfl (by decide) (by decide) ?_
            refine st_dupR (pc := 253) hC dX11_reads_253 (by decide) (by decide) ?_
            refine st_getf (ci := 10) (f := 9) (v := iV ((upS (upS σ 66 10 (σ 66 9)) 66 11 4) 66 9)) (pc := 254) hC dX11_reads_254 fl_11_73 rfl rfl ?_
            refine st_iconst (pc := 257) hC dX11_reads_257 (by decide) ?_
            refine st_iadd (pc := 258) hC dX11_reads_258 ?_
            refine st_putfI (ci := 10) (f := 9) (pc := 259) hC dX11_reads_259 fl_11_73 rfl rfl ?_
            exact st_return (pc := 262) hC dX11_reads_262 h
        · refine st_aload_n (pc := 136) hC dX11_reads_136 rfl (by decide) (by decide) ?_
          refine st_iconst (pc := 137) hC dX11_reads_137 (by decide) ?_
          refine st_putfI (ci := 10) (f := 12) (pc := 138) hC dX11_reads_138 fl_11_93 rfl rfl ?_
          exact h
      · exact h
    · refine st_aload_n (pc := 71) hC dX11_reads_71 rfl (by decide) (by decide) ?_
      refine st_iconst (pc := 72) hC dX11_reads_72 (by decide) ?_
      refine st_putfI (ci := 10) (f := 11) (pc := 73) hC dX11_reads_73 fl_11_79 rfl rfl ?_
      exact st_return (pc := 76) hC dX11_reads_76 h
theorem bX11_reads_94 {C : Nat → List Vv → Sg → Rs → Sg → Prop} {X : Nat → List Vv → List Vv → Sg → Prop} {Xr : List Vv → Sg → Prop} {Xt : Nat → Sg → Prop} (hC : Clo C 11 cX11_reads none X Xr Xt) {x1 : Int} {σ : Sg} (h : ∃ v1 : Int, C MX11_see [rV 20 66, iV (σ 66 9)] σ (.inl [iV v1]) σ ∧ (∃ v2 : Int, C MX11_isLetter [iV v1] σ (.inl [iV v2]) σ ∧ (if v2 = 0 then (Xr [] (upS σ 66 11 1)) else (X 94 [rV 20 66, iV x1] [] (upS σ 66 9 (w32 ((σ 66 9) + 1))))))) : X 94 [rV 20 66, iV x1] [] σ := by
  refine st_aload_n (pc := 94) hC dX11_reads_94 rfl (by decide) (by decide) ?_
  refine st_aload_n (pc := 95) hC dX11_reads_95 rfl (by decide) (by decide) ?_
  refine st_getf (ci := 10) (f := 9) (v := iV (σ 66 9)) (pc := 96) hC dX11_reads_96 fl_11_73 rfl rfl ?_
  obtain ⟨v1, hq, h⟩ := h
  refine st_invV (As := [iV (σ 66 9)]) (v := [iV v1]) (S := []) (pc := 99) hC dX11_reads_99 cl_11_86 rfl rfl (Nat.le_of_ble_eq_true rfl) cr_X11_see hq ?_
  obtain ⟨v2, hq, h⟩ := h
  refine st_invS (As := [iV v1]) (v := [iV v2]) (S := []) (pc := 102) hC dX11_reads_102 cl_11_82 rfl rfl (Nat.le_of_ble_eq_true rfl) hq ?_
  refine st_if_eq (tg := 121) (pc := 105) hC dX11_reads_105 (by decide) (ite_im h (fun h => ?_) (fun h => ?_))
  · refine st_aload_n (pc := 121) hC dX11_reads_121 rfl (by decide) (by decide) ?_
    refine st_iconst (pc := 122) hC dX11_reads_122 (by decide) ?_
    refine st_putfI (ci := 10) (f := 11) (pc := 123) hC dX11_reads_123 fl_11_79 rfl rfl ?_
    refine st_goto (tg := 262) (pc := 126) hC dX11_reads_126 (by decide) ?_
    exact st_return (pc := 262) hC dX11_reads_262 h
  · refine st_aload_n (pc := 108) hC dX11_reads_108 rfl (by decide) (by decide) ?_
    refine st_dupR (pc := 109) hC dX11_reads_109 (by decide) (by decide) ?_
    refine st_getf (ci := 10) (f := 9) (v := iV (σ 66 9)) (pc := 110) hC dX11_reads_110 fl_11_73 rfl rfl ?_
    refine st_iconst (pc := 113) hC dX11_reads_113 (by decide) ?_
    refine st_iadd (pc := 114) hC dX11_reads_114 ?_
    refine st_putfI (ci := 10) (f := 9) (pc := 115) hC dX11_reads_115 fl_11_73 rfl rfl ?_
    refine st_goto (tg := 94) (pc := 118) hC dX11_reads_118 (by decide) ?_
    exact h
theorem bX11_reads_141 {C : Nat → List Vv → Sg → Rs → Sg → Prop} {X : Nat → List Vv → List Vv → Sg → Prop} {Xr : List Vv → Sg → Prop} {Xt : Nat → Sg → Prop} (hC : Clo C 11 cX11_reads none X Xr Xt) {x1 : Int} {σ : Sg} (h : ∃ v1 : Int, C MX11_see [rV 20 66, iV (σ 66 9)] σ (.inl [iV v1]) σ ∧ (∃ v2 : Int, C MX11_isDigit [iV v1] σ (.inl [iV v2]) σ ∧ (if v2 = 0 then (if (3 : Int) < (w32 ((σ 66 9) - (σ 66 10))) then (Xr [] (upS σ 66 11 4)) else (Xr [] (upS σ 66 11 2))) else (if (w32 ((σ 66 9) - (σ 66 10))) < 3 then ((0 ≤ (σ 66 9) ∧ (σ 66 9) < 700) ∧ (X 141 [rV 20 66, iV x1] [] (upS (upS σ 66 12 (w32 ((w32 ((w32 (10 * (σ 66 12))) + (σ 72 ((σ 66 9)).toNat))) - 48))) 66 9 (w32 (((upS σ 66 12 (w32 ((w32 ((w32 (10 * (σ 66 12))) + (σ 72 ((σ 66 9)).toNat))) - 48))) 66 9) + 1))))) else (X 141 [rV 20 66, iV x1] [] (upS (upS σ 66 12 (σ 66 12)) 66 9 (w32 (((upS σ 66 12 (σ 66 12)) 66 9) + 1)))))))) : X 141 [rV 20 66, iV x1] [] σ := by
  refine st_aload_n (pc := 141) hC dX11_reads_141 rfl (by decide) (by decide) ?_
  refine st_aload_n (pc := 142) hC dX11_reads_142 rfl (by decide) (by decide) ?_
  refine st_getf (ci := 10) (f := 9) (v := iV (σ 66 9)) (pc := 143) hC dX11_reads_143 fl_11_73 rfl rfl ?_
  obtain ⟨v1, hq, h⟩ := h
  refine st_invV (As := [iV (σ 66 9)]) (v := [iV v1]) (S := []) (pc := 146) hC dX11_reads_146 cl_11_86 rfl rfl (Nat.le_of_ble_eq_true rfl) cr_X11_see hq ?_
  obtain ⟨v2, hq, h⟩ := h
  refine st_invS (As := [iV v1]) (v := [iV v2]) (S := []) (pc := 149) hC dX11_reads_149 cl_11_90 rfl rfl (Nat.le_of_ble_eq_true rfl) hq ?_
  refine st_if_eq (tg := 212) (pc := 152) hC dX11_reads_152 (by decide) (ite_im h (fun h => ?_) (fun h => ?_))
  · refine st_aload_n (pc := 212) hC dX11_reads_212 rfl (by decide) (by decide) ?_
    refine st_aload_n (pc := 213) hC dX11_reads_213 rfl (by decide) (by decide) ?_
    refine st_getf (ci := 10) (f := 9) (v := iV (σ 66 9)) (pc := 214) hC dX11_reads_214 fl_11_73 rfl rfl ?_
    refine st_aload_n (pc := 217) hC dX11_reads_217 rfl (by decide) (by decide) ?_
    refine st_getf (ci := 10) (f := 10) (v := iV (σ 66 10)) (pc := 218) hC dX11_reads_218 fl_11_76 rfl rfl ?_
    refine st_isub (pc := 221) hC dX11_reads_221 ?_
    refine st_iconst (pc := 222) hC dX11_reads_222 (by decide) ?_
    refine st_icmp_le (tg := 230) (pc := 223) hC dX11_reads_223 (by decide) (ite_im h (fun h => ?_) (fun h => ?_))
    · refine st_iconst (pc := 226) hC dX11_reads_226 (by decide) ?_
      refine st_goto (tg := 231) (pc := 227) hC dX11_reads_227 (by decide) ?_
      refine st_putfI (ci := 10) (f := 11) (pc := 231) hC dX11_reads_231 fl_11_79 rfl rfl ?_
      refine st_goto (tg := 262) (pc := 234) hC dX11_reads_234 (by decide) ?_
      exact st_return (pc := 262) hC dX11_reads_262 h
    · refine st_iconst (pc := 230) hC dX11_reads_230 (by decide) ?_
      refine st_putfI (ci := 10) (f := 11) (pc := 231) hC dX11_reads_231 fl_11_79 rfl rfl ?_
      refine st_goto (tg := 262) (pc := 234) hC dX11_reads_234 (by decide) ?_
      exact st_return (pc := 262) hC dX11_reads_262 h
  · refine st_aload_n (pc := 155) hC dX11_reads_155 rfl (by decide) (by decide) ?_
    refine st_aload_n (pc := 156) hC dX11_reads_156 rfl (by decide) (by decide) ?_
    refine st_getf (ci := 10) (f := 9) (v := iV (σ 66 9)) (pc := 157) hC dX11_reads_157 fl_11_73 rfl rfl ?_
    refine st_aload_n (pc := 160) hC dX11_reads_160 rfl (by decide) (by decide) ?_
    refine st_getf (ci := 10) (f := 10) (v := iV (σ 66 10)) (pc := 161) hC dX11_reads_161 fl_11_76 rfl rfl ?_
    refine st_isub (pc := 164) hC dX11_reads_164 ?_
    refine st_iconst (pc := 165) hC dX11_reads_165 (by decide) ?_
    refine st_icmp_ge (tg := 192) (pc := 166) hC dX11_reads_166 (by decide) (ite_im h (fun h => ?_) (fun h => ?_))
    · refine st_bipush (pc := 169) hC dX11_reads_169 (by decide) ?_
      refine st_aload_n (pc := 171) hC dX11_reads_171 rfl (by decide) (by decide) ?_
      refine st_getf (ci := 10) (f := 12) (v := iV (σ 66 12)) (pc := 172) hC dX11_reads_172 fl_11_93 rfl rfl ?_
      refine st_imul (pc := 175) hC dX11_reads_175 ?_
      refine st_aload_n (pc := 176) hC dX11_reads_176 rfl (by decide) (by decide) ?_
      refine st_getf (ci := 10) (f := 6) (v := rV 1000700 72) (pc := 177) hC dX11_reads_177 fl_11_26 rfl rfl ?_
      refine st_aload_n (pc := 180) hC dX11_reads_180 rfl (by decide) (by decide) ?_
      refine st_getf (ci := 10) (f := 9) (v := iV (σ 66 9)) (pc := 181) hC dX11_reads_181 fl_11_73 rfl rfl ?_
      obtain ⟨hb, h⟩ := h
      refine st_iald (n := 700) (pc := 184) hC dX11_reads_184 (by decide) hb ?_
      refine st_iadd (pc := 185) hC dX11_reads_185 ?_
      refine st_bipush (pc := 186) hC dX11_reads_186 (by decide) ?_
      refine st_isub (pc := 188) hC dX11_reads_188 ?_
      refine st_goto (tg := 196) (pc := 189) hC dX11_reads_189 (by decide) ?_
      refine st_putfI (ci := 10) (f := 12) (pc := 196) hC dX11_reads_196 fl_11_93 rfl rfl ?_
      refine st_aload_n (pc := 199) hC dX11_reads_199 rfl (by decide) (by decide) ?_
      refine st_dupR (pc := 200) hC dX11_reads_200 (by decide) (by decide) ?_
      refine st_getf (ci := 10) (f := 9) (v := iV ((upS σ 66 12 (w32 ((w32 ((w32 (10 * (σ 66 12))) + (σ 72 ((σ 66 9)).toNat))) - 48))) 66 9)) (pc := 201) hC dX11_reads_201 fl_11_73 rfl rfl ?_
      refine st_iconst (pc := 204) hC dX11_reads_204 (by decide) ?_
      refine st_iadd (pc := 205) hC dX11_reads_205 ?_
      refine st_putfI (ci := 10) (f := 9) (pc := 206) hC dX11_reads_206 fl_11_73 rfl rfl ?_
      refine st_goto (tg := 141) (pc := 209) hC dX11_reads_209 (by decide) ?_
      exact h
    · refine st_aload_n (pc := 192) hC dX11_reads_192 rfl (by decide) (by decide) ?_
      refine st_getf (ci := 10) (f := 12) (v := iV (σ 66 12)) (pc := 193) hC dX11_reads_193 fl_11_93 rfl rfl ?_
      refine st_putfI (ci := 10) (f := 12) (pc := 196) hC dX11_reads_196 fl_11_93 rfl rfl ?_
      refine st_aload_n (pc := 199) hC dX11_reads_199 rfl (by decide) (by decide) ?_
      refine st_dupR (pc := 200) hC dX11_reads_200 (by decide) (by decide) ?_
      refine st_getf (ci := 10) (f := 9) (v := iV ((upS σ 66 12 (σ 66 12)) 66 9)) (pc := 201) hC dX11_reads_201 fl_11_73 rfl rfl ?_
      refine st_iconst (pc := 204) hC dX11_reads_204 (by decide) ?_
      refine st_iadd (pc := 205) hC dX11_reads_205 ?_
      refine st_putfI (ci := 10) (f := 9) (pc := 206) hC dX11_reads_206 fl_11_73 rfl rfl ?_
      refine st_goto (tg := 141) (pc := 209) hC dX11_reads_209 (by decide) ?_
      exact h
theorem bX11_blames_0 {C : Nat → List Vv → Sg → Rs → Sg → Prop} {X : Nat → List Vv → List Vv → Sg → Prop} {Xr : List Vv → Sg → Prop} {Xt : Nat → Sg → Prop} (hC : Clo C 11 cX11_blames none X Xr Xt) {x1 : Int} {σ : Sg} (h : if (σ 66 13) = 0 then (if (σ 66 11) = 4 then (Xr [] (upS (upS σ 66 13 1) 66 14 ((upS σ 66 13 1) 66 10))) else (Xr [] (upS (upS σ 66 13 x1) 66 14 ((upS σ 66 13 x1) 66 10)))) else (Xr [] σ)) : X 0 [rV 20 66, iV x1] [] σ := by
  refine st_aload_n (pc := 0) hC dX11_blames_0 rfl (by decide) (by decide) ?_
  refine st_getf (ci := 10) (f := 13) (v := iV (σ 66 13)) (pc := 1) hC dX11_blames_1 fl_11_96 rfl rfl ?_
  refine st_if_eq (tg := 8) (pc := 4) hC dX11_blames_4 (by decide) (ite_im h (fun h => ?_) (fun h => ?_))
  · refine st_aload_n (pc := 8) hC dX11_blames_8 rfl (by decide) (by decide) ?_
    refine st_aload_n (pc := 9) hC dX11_blames_9 rfl (by decide) (by decide) ?_
    refine st_getf (ci := 10) (f := 11) (v := iV (σ 66 11)) (pc := 10) hC dX11_blames_10 fl_11_79 rfl rfl ?_
    refine st_iconst (pc := 13) hC dX11_blames_13 (by decide) ?_
    refine st_icmp_ne (tg := 21) (pc := 14) hC dX11_blames_14 (by decide) (ite_im h (fun h => ?_) (fun h => ?_))
    · refine st_iconst (pc := 17) hC dX11_blames_17 (by decide) ?_
      refine st_goto (tg := 22) (pc := 18) hC dX11_blames_18 (by decide) ?_
      refine st_putfI (ci := 10) (f := 13) (pc := 22) hC dX11_blames_22 fl_11_96 rfl rfl ?_
      refine st_aload_n (pc := 25) hC dX11_blames_25 rfl (by decide) (by decide) ?_
      refine st_aload_n (pc := 26) hC dX11_blames_26 rfl (by decide) (by decide) ?_
      refine st_getf (ci := 10) (f := 10) (v := iV ((upS σ 66 13 1) 66 10)) (pc := 27) hC dX11_blames_27 fl_11_76 rfl rfl ?_
      refine st_putfI (ci := 10) (f := 14) (pc := 30) hC dX11_blames_30 fl_11_99 rfl rfl ?_
      exact st_return (pc := 33) hC dX11_blames_33 h
    · refine st_iload_n (pc := 21) hC dX11_blames_21 rfl ?_
      refine st_putfI (ci := 10) (f := 13) (pc := 22) hC dX11_blames_22 fl_11_96 rfl rfl ?_
      refine st_aload_n (pc := 25) hC dX11_blames_25 rfl (by decide) (by decide) ?_
      refine st_aload_n (pc := 26) hC dX11_blames_26 rfl (by decide) (by decide) ?_
      refine st_getf (ci := 10) (f := 10) (v := iV ((upS σ 66 13 x1) 66 10)) (pc := 27) hC dX11_blames_27 fl_11_76 rfl rfl ?_
      refine st_putfI (ci := 10) (f := 14) (pc := 30) hC dX11_blames_30 fl_11_99 rfl rfl ?_
      exact st_return (pc := 33) hC dX11_blames_33 h
  · exact st_return (pc := 7) hC dX11_blames_7 h
theorem bX11_isWord_0 {C : Nat → List Vv → Sg → Rs → Sg → Prop} {X : Nat → List Vv → List Vv → Sg → Prop} {Xr : List Vv → Sg → Prop} {Xt : Nat → Sg → Prop} (hC : Clo C 11 cX11_isWord (some .boolean) X Xr Xt) {t1 : Nat} {σ : Sg} (h : if (σ 66 13) = 0 then (if (σ 66 11) = 1 then (t1 < 1000 + SLen.length ∧ (∃ v1 : Int, C MJ0_length_8abf5 [rV 30 t1] σ (.inl [iV v1]) σ ∧ (if (w32 ((σ 66 9) - (σ 66 10))) = v1 then (X 39 [rV 20 66, rV 30 t1, iV 1, iV 0] [] σ) else (X 39 [rV 20 66, rV 30 t1, iV 0, iV 0] [] σ)))) else (X 39 [rV 20 66, rV 30 t1, iV 0, iV 0] [] σ)) else (X 39 [rV 20 66, rV 30 t1, iV 0, iV 0] [] σ)) : X 0 [rV 20 66, rV 30 t1, uV, uV] [] σ := by
  refine st_aload_n (pc := 0) hC dX11_isWord_0 rfl (by decide) (by decide) ?_
  refine st_getf (ci := 10) (f := 13) (v := iV (σ 66 13)) (pc := 1) hC dX11_isWord_1 fl_11_96 rfl rfl ?_
  refine st_if_ne (tg := 35) (pc := 4) hC dX11_isWord_4 (by decide) (ite_im h (fun h => ?_) (fun h => ?_))
  · refine st_aload_n (pc := 7) hC dX11_isWord_7 rfl (by decide) (by decide) ?_
    refine st_getf (ci := 10) (f := 11) (v := iV (σ 66 11)) (pc := 8) hC dX11_isWord_8 fl_11_79 rfl rfl ?_
    refine st_iconst (pc := 11) hC dX11_isWord_11 (by decide) ?_
    refine st_icmp_ne (tg := 35) (pc := 12) hC dX11_isWord_12 (by decide) (ite_im h (fun h => ?_) (fun h => ?_))
    · refine st_aload_n (pc := 15) hC dX11_isWord_15 rfl (by decide) (by decide) ?_
      refine st_getf (ci := 10) (f := 9) (v := iV (σ 66 9)) (pc := 16) hC dX11_isWord_16 fl_11_73 rfl rfl ?_
      refine st_aload_n (pc := 19) hC dX11_isWord_19 rfl (by decide) (by decide) ?_
      refine st_getf (ci := 10) (f := 10) (v := iV (σ 66 10)) (pc := 20) hC dX11_isWord_20 fl_11_76 rfl rfl ?_
      refine st_isub (pc := 23) hC dX11_isWord_23 ?_
      refine st_aload_n (pc := 24) hC dX11_isWord_24 rfl (by decide) (by decide) ?_
      obtain ⟨h00, h⟩ := h
      obtain ⟨v1, hq, h⟩ := h
      refine st_invT (As := []) (v := [iV v1]) (S := [iV (w32 ((σ 66 9) - (σ 66 10)))]) (pc := 25) hC dX11_isWord_25 cl_11_102 rfl rfl (Nat.le_of_ble_eq_true rfl) h00 rfl hq ?_
      refine st_icmp_ne (tg := 35) (pc := 28) hC dX11_isWord_28 (by decide) (ite_im h (fun h => ?_) (fun h => ?_))
      · refine st_iconst (pc := 31) hC dX11_isWord_31 (by decide) ?_
        refine st_goto (tg := 36) (pc := 32) hC dX11_isWord_32 (by decide) ?_
        refine st_istore_n (L2 := [rV 20 66, rV 30 t1, iV 1, uV]) (pc := 36) hC dX11_isWord_36 (Nat.le_of_ble_eq_true rfl) rfl ?_
        refine st_iconst (pc := 37) hC dX11_isWord_37 (by decide) ?_
        refine st_istore_n (L2 := [rV 20 66, rV 30 t1, iV 1, iV 0]) (pc := 38) hC dX11_isWord_38 (Nat.le_of_ble_eq_true rfl) rfl ?_
        exact h
      · refine st_iconst (pc := 35) hC dX11_isWord_35 (by decide) ?_
        refine st_istore_n (L2 := [rV 20 66, rV 30 t1, iV 0, uV]) (pc := 36) hC dX11_isWord_36 (Nat.le_of_ble_eq_true rfl) rfl ?_
        refine st_iconst (pc := 37) hC dX11_isWord_37 (by decide) ?_
        refine st_istore_n (L2 := [rV 20 66, rV 30 t1, iV 0, iV 0]) (pc := 38) hC dX11_isWord_38 (Nat.le_of_ble_eq_true rfl) rfl ?_
        exact h
    · refine st_iconst (pc := 35) hC dX11_isWord_35 (by decide) ?_
      refine st_istore_n (L2 := [rV 20 66, rV 30 t1, iV 0, uV]) (pc := 36) hC dX11_isWord_36 (Nat.le_of_ble_eq_true rfl) rfl ?_
      refine st_iconst (pc := 37) hC dX11_isWord_37 (by decide) ?_
      refine st_istore_n (L2 := [rV 20 66, rV 30 t1, iV 0, iV 0]) (pc := 38) hC dX11_isWord_38 (Nat.le_of_ble_eq_true rfl) rfl ?_
      exact h
  · refine st_iconst (pc := 35) hC dX11_isWord_35 (by decide) ?_
    refine st_istore_n (L2 := [rV 20 66, rV 30 t1, iV 0, uV]) (pc := 36) hC dX11_isWord_36 (Nat.le_of_ble_eq_true rfl) rfl ?_
    refine st_iconst (pc := 37) hC dX11_isWord_37 (by decide) ?_
    refine st_istore_n (L2 := [rV 20 66, rV 30 t1, iV 0, iV 0]) (pc := 38) hC dX11_isWord_38 (Nat.le_of_ble_eq_true rfl) rfl ?_
    exact h
theorem bX11_isWord_39 {C : Nat → List Vv → Sg → Rs → Sg → Prop} {X : Nat → List Vv → List Vv → Sg → Prop} {Xr : List Vv → Sg → Prop} {Xt : Nat → Sg → Prop} (hC : Clo C 11 cX11_isWord (some .boolean) X Xr Xt) {x2 x3 : Int} {t1 : Nat} {σ : Sg} (h : if x2 = 0 then ((x2 = 0 ∨ x2 = 1) ∧ Xr [iV x2] σ) else (t1 < 1000 + SLen.length ∧ (∃ v1 : Int, C MJ0_length_8abf5 [rV 30 t1] σ (.inl [iV v1]) σ ∧ (if x3 < v1 then ((0 ≤ (w32 ((σ 66 10) + x3)) ∧ (w32 ((σ 66 10) + x3)) < 700) ∧ (t1 < 1000 + SLen.length ∧ (∃ v2 : Int, C MJ0_charAt_5068e [rV 30 t1, iV x3] σ (.inl [iV v2]) σ ∧ (if (σ 72 ((w32 ((σ 66 10) + x3))).toNat) = v2 then (X 39 [rV 20 66, rV 30 t1, iV 1, iV (w32 (x3 + 1))] [] σ) else (X 39 [rV 20 66, rV 30 t1, iV 0, iV (w32 (x3 + 1))] [] σ))))) else ((x2 = 0 ∨ x2 = 1) ∧ Xr [iV x2] σ))))) : X 39 [rV 20 66, rV 30 t1, iV x2, iV x3] [] σ := by
  refine st_iload_n (pc := 39) hC dX11_isWord_39 rfl ?_
  refine st_if_eq (tg := 82) (pc := 40) hC dX11_isWord_40 (by decide) (ite_im h (fun h => ?_) (fun h => ?_))
  · refine st_iload_n (pc := 82) hC dX11_isWord_82 rfl ?_
    exact st_ireturn (pc := 83) hC dX11_isWord_83 h.1 h.2
  · refine st_iload_n (pc := 43) hC dX11_isWord_43 rfl ?_
    refine st_aload_n (pc := 44) hC dX11_isWord_44 rfl (by decide) (by decide) ?_
    obtain ⟨h00, h⟩ := h
    obtain ⟨v1, hq, h⟩ := h
    refine st_invT (As := []) (v := [iV v1]) (S := [iV x3]) (pc := 45) hC dX11_isWord_45 cl_11_102 rfl rfl (Nat.le_of_ble_eq_true rfl) h00 rfl hq ?_
    refine st_icmp_ge (tg := 82) (pc := 48) hC dX11_isWord_48 (by decide) (ite_im h (fun h => ?_) (fun h => ?_))
    · refine st_aload_n (pc := 51) hC dX11_isWord_51 rfl (by decide) (by decide) ?_
      refine st_getf (ci := 10) (f := 6) (v := rV 1000700 72) (pc := 52) hC dX11_isWord_52 fl_11_26 rfl rfl ?_
      refine st_aload_n (pc := 55) hC dX11_isWord_55 rfl (by decide) (by decide) ?_
      refine st_getf (ci := 10) (f := 10) (v := iV (σ 66 10)) (pc := 56) hC dX11_isWord_56 fl_11_76 rfl rfl ?_
      refine st_iload_n (pc := 59) hC dX11_isWord_59 rfl ?_
      refine st_iadd (pc := 60) hC dX11_isWord_60 ?_
      obtain ⟨hb, h⟩ := h
      refine st_iald (n := 700) (pc := 61) hC dX11_isWord_61 (by decide) hb ?_
      refine st_aload_n (pc := 62) hC dX11_isWord_62 rfl (by decide) (by decide) ?_
      refine st_iload_n (pc := 63) hC dX11_isWord_63 rfl ?_
      obtain ⟨h00, h⟩ := h
      obtain ⟨v2, hq, h⟩ := h
      refine st_invT (As := [iV x3]) (v := [iV v2]) (S := [iV (σ 72 ((w32 ((σ 66 10) + x3))).toNat)]) (pc := 64) hC dX11_isWord_64 cl_11_107 rfl rfl (Nat.le_of_ble_eq_true rfl) h00 rfl hq ?_
      refine st_icmp_ne (tg := 74) (pc := 67) hC dX11_isWord_67 (by decide) (ite_im h (fun h => ?_) (fun h => ?_))
      · refine st_iconst (pc := 70) hC dX11_isWord_70 (by decide) ?_
        refine st_goto (tg := 75) (pc := 71) hC dX11_isWord_71 (by decide) ?_
        refine st_istore_n (L2 := [rV 20 66, rV 30 t1, iV 1, iV x3]) (pc := 75) hC dX11_isWord_75 (Nat.le_of_ble_eq_true rfl) rfl ?_
        refine st_iinc (L2 := [rV 20 66, rV 30 t1, iV 1, iV (w32 (x3 + 1))]) (pc := 76) hC dX11_isWord_76 rfl (Nat.le_of_ble_eq_true rfl) rfl ?_
        refine st_goto (tg := 39) (pc := 79) hC dX11_isWord_79 (by decide) ?_
        exact h
      · refine st_iconst (pc := 74) hC dX11_isWord_74 (by decide) ?_
        refine st_istore_n (L2 := [rV 20 66, rV 30 t1, iV 0, iV x3]) (pc := 75) hC dX11_isWord_75 (Nat.le_of_ble_eq_true rfl) rfl ?_
        refine st_iinc (L2 := [rV 20 66, rV 30 t1, iV 0, iV (w32 (x3 + 1))]) (pc := 76) hC dX11_isWord_76 rfl (Nat.le_of_ble_eq_true rfl) rfl ?_
        refine st_goto (tg := 39) (pc := 79) hC dX11_isWord_79 (by decide) ?_
        exact h
    · refine st_iload_n (pc := 82) hC dX11_isWord_82 rfl ?_
      exact st_ireturn (pc := 83) hC dX11_isWord_83 h.1 h.2
theorem bX11_took_0 {C : Nat → List Vv → Sg → Rs → Sg → Prop} {X : Nat → List Vv → List Vv → Sg → Prop} {Xr : List Vv → Sg → Prop} {Xt : Nat → Sg → Prop} (hC : Clo C 11 cX11_took (some .boolean) X Xr Xt) {t1 : Nat} {σ : Sg} (h : ∃ v1 : Int, C MX11_isWord [rV 20 66, rV 30 t1] σ (.inl [iV v1]) σ ∧ (if v1 = 0 then ((v1 = 0 ∨ v1 = 1) ∧ Xr [iV v1] σ) else (∃ σ2 : Sg, C MX11_reads [rV 20 66] σ (.inl []) σ2 ∧ ((v1 = 0 ∨ v1 = 1) ∧ Xr [iV v1] σ2)))) : X 0 [rV 20 66, rV 30 t1, uV] [] σ := by
  refine st_aload_n (pc := 0) hC dX11_took_0 rfl (by decide) (by decide) ?_
  refine st_aload_n (pc := 1) hC dX11_took_1 rfl (by decide) (by decide) ?_
  obtain ⟨v1, hq, h⟩ := h
  refine st_invV (As := [rV 30 t1]) (v := [iV v1]) (S := []) (pc := 2) hC dX11_took_2 cl_11_111 rfl rfl (Nat.le_of_ble_eq_true rfl) cr_X11_isWord hq ?_
  refine st_istore_n (L2 := [rV 20 66, rV 30 t1, iV v1]) (pc := 5) hC dX11_took_5 (Nat.le_of_ble_eq_true rfl) rfl ?_
  refine st_iload_n (pc := 6) hC dX11_took_6 rfl ?_
  refine st_if_eq (tg := 14) (pc := 7) hC dX11_took_7 (by decide) (ite_im h (fun h => ?_) (fun h => ?_))
  · refine st_iload_n (pc := 14) hC dX11_took_14 rfl ?_
    exact st_ireturn (pc := 15) hC dX11_took_15 h.1 h.2
  · refine st_aload_n (pc := 10) hC dX11_took_10 rfl (by decide) (by decide) ?_
    obtain ⟨σ2, hq, h⟩ := h
    refine st_invV (As := []) (v := []) (S := []) (pc := 11) hC dX11_took_11 cl_11_115 rfl rfl (Nat.le_of_ble_eq_true rfl) cr_X11_reads hq ?_
    refine st_iload_n (pc := 14) hC dX11_took_14 rfl ?_
    exact st_ireturn (pc := 15) hC dX11_took_15 h.1 h.2
theorem bX11_must_0 {C : Nat → List Vv → Sg → Rs → Sg → Prop} {X : Nat → List Vv → List Vv → Sg → Prop} {Xr : List Vv → Sg → Prop} {Xt : Nat → Sg → Prop} (hC : Clo C 11 cX11_must none X Xr Xt) {t1 : Nat} {σ : Sg} (h : ∃ v1 : Int, ∃ σ1 : Sg, C MX11_took [rV 20 66, rV 30 t1] σ (.inl [iV v1]) σ1 ∧ (if v1 = 0 then (∃ σ2 : Sg, C MX11_blames [rV 20 66, iV 2] σ1 (.inl []) σ2 ∧ (Xr [] σ2)) else (Xr [] σ1))) : X 0 [rV 20 66, rV 30 t1] [] σ := by
  refine st_aload_n (pc := 0) hC dX11_must_0 rfl (by decide) (by decide) ?_
  refine st_aload_n (pc := 1) hC dX11_must_1 rfl (by decide) (by decide) ?_
  obtain ⟨v1, σ1, hq, h⟩ := h
  refine st_invV (As := [rV 30 t1]) (v := [iV v1]) (S := []) (pc := 2) hC dX11_must_2 cl_11_118 rfl rfl (Nat.le_of_ble_eq_true rfl) cr_X11_took hq ?_
  refine st_if_ne (tg := 13) (pc := 5) hC dX11_must_5 (by decide) (ite_im h (fun h => ?_) (fun h => ?_))
  · refine st_aload_n (pc := 8) hC dX11_must_8 rfl (by decide) (by decide) ?_
    refine st_iconst (pc := 9) hC dX11_must_9 (by decide) ?_
    obtain ⟨σ2, hq, h⟩ := h
    refine st_invV (As := [iV 2]) (v := []) (S := []) (pc := 10) hC dX11_must_10 cl_11_121 rfl rfl (Nat.le_of_ble_eq_true rfl) cr_X11_blames hq ?_
    exact st_return (pc := 13) hC dX11_must_13 h
  · exact st_return (pc := 13) hC dX11_must_13 h
theorem bX11_isNumber_0 {C : Nat → List Vv → Sg → Rs → Sg → Prop} {X : Nat → List Vv → List Vv → Sg → Prop} {Xr : List Vv → Sg → Prop} {Xt : Nat → Sg → Prop} (hC : Clo C 11 cX11_isNumber (some .boolean) X Xr Xt) {σ : Sg} (h : if (σ 66 13) = 0 then (if (σ 66 11) = 2 then (Xr [iV 1] σ) else (Xr [iV 0] σ)) else (Xr [iV 0] σ)) : X 0 [rV 20 66] [] σ := by
  refine st_aload_n (pc := 0) hC dX11_isNumber_0 rfl (by decide) (by decide) ?_
  refine st_getf (ci := 10) (f := 13) (v := iV (σ 66 13)) (pc := 1) hC dX11_isNumber_1 fl_11_96 rfl rfl ?_
  refine st_if_ne (tg := 19) (pc := 4) hC dX11_isNumber_4 (by decide) (ite_im h (fun h => ?_) (fun h => ?_))
  · refine st_aload_n (pc := 7) hC dX11_isNumber_7 rfl (by decide) (by decide) ?_
    refine st_getf (ci := 10) (f := 11) (v := iV (σ 66 11)) (pc := 8) hC dX11_isNumber_8 fl_11_79 rfl rfl ?_
    refine st_iconst (pc := 11) hC dX11_isNumber_11 (by decide) ?_
    refine st_icmp_ne (tg := 19) (pc := 12) hC dX11_isNumber_12 (by decide) (ite_im h (fun h => ?_) (fun h => ?_))
    · refine st_iconst (pc := 15) hC dX11_isNumber_15 (by decide) ?_
      refine st_goto (tg := 20) (pc := 16) hC dX11_isNumber_16 (by decide) ?_
      exact st_ireturn (pc := 20) hC dX11_isNumber_20 (Or.inr rfl) h
    · refine st_iconst (pc := 19) hC dX11_isNumber_19 (by decide) ?_
      exact st_ireturn (pc := 20) hC dX11_isNumber_20 (Or.inl rfl) h
  · refine st_iconst (pc := 19) hC dX11_isNumber_19 (by decide) ?_
    exact st_ireturn (pc := 20) hC dX11_isNumber_20 (Or.inl rfl) h
theorem bX11_coinOf_0 {C : Nat → List Vv → Sg → Rs → Sg → Prop} {X : Nat → List Vv → List Vv → Sg → Prop} {Xr : List Vv → Sg → Prop} {Xt : Nat → Sg → Prop} (hC : Clo C 11 cX11_coinOf (some .int) X Xr Xt) {x1 : Int} {t0 : Nat} {σ : Sg} (h : X 2 [rV 1000181 t0, lV x1, uV, iV 0] [] σ) : X 0 [rV 1000181 t0, lV x1, uV, uV] [] σ := by
  refine st_iconst (pc := 0) hC dX11_coinOf_0 (by decide) ?_
  refine st_istore_n (L2 := [rV 1000181 t0, lV x1, uV, iV 0]) (pc := 1) hC dX11_coinOf_1 (Nat.le_of_ble_eq_true rfl) rfl ?_
  exact h
theorem bX11_coinOf_2 {C : Nat → List Vv → Sg → Rs → Sg → Prop} {X : Nat → List Vv → List Vv → Sg → Prop} {Xr : List Vv → Sg → Prop} {Xt : Nat → Sg → Prop} (hC : Clo C 11 cX11_coinOf (some .int) X Xr Xt) {x1 x3 : Int} {t0 : Nat} {σ : Sg} (h : if x3 < (σ t0 1) then ((0 ≤ (w32 (4 + x3)) ∧ (w32 (4 + x3)) < 181) ∧ (if (σ t0 ((w32 (4 + x3))).toNat) = x1 then (Xr [iV x3] σ) else (X 2 [rV 1000181 t0, lV x1, uV, iV (w32 (x3 + 1))] [] σ))) else (Xr [iV (-1)] σ)) : X 2 [rV 1000181 t0, lV x1, uV, iV x3] [] σ := by
  refine st_iload_n (pc := 2) hC dX11_coinOf_2 rfl ?_
  refine st_aload_n (pc := 3) hC dX11_coinOf_3 rfl (by decide) (by decide) ?_
  refine st_iconst (pc := 4) hC dX11_coinOf_4 (by decide) ?_
  refine st_iald (n := 181) (pc := 5) hC dX11_coinOf_5 (by decide) ⟨by decide, by decide⟩ ?_
  refine st_icmp_ge (tg := 28) (pc := 6) hC dX11_coinOf_6 (by decide) (ite_im h (fun h => ?_) (fun h => ?_))
  · refine st_aload_n (pc := 9) hC dX11_coinOf_9 rfl (by decide) (by decide) ?_
    refine st_iconst (pc := 10) hC dX11_coinOf_10 (by decide) ?_
    refine st_iload_n (pc := 11) hC dX11_coinOf_11 rfl ?_
    refine st_iadd (pc := 12) hC dX11_coinOf_12 ?_
    obtain ⟨hb, h⟩ := h
    refine st_iald (n := 181) (pc := 13) hC dX11_coinOf_13 (by decide) hb ?_
    refine st_i2l (pc := 14) hC dX11_coinOf_14 ?_
    refine st_lload_n (pc := 15) hC dX11_coinOf_15 rfl ?_
    refine st_lcmp_ne (tg := 22) (pc := 16) hC dX11_coinOf_16 dX11_coinOf_17 (by decide) (ite_im h (fun h => ?_) (fun h => ?_))
    · refine st_iload_n (pc := 20) hC dX11_coinOf_20 rfl ?_
      exact st_ireturn (pc := 21) hC dX11_coinOf_21 trivial h
    · refine st_iinc (L2 := [rV 1000181 t0, lV x1, uV, iV (w32 (x3 + 1))]) (pc := 22) hC dX11_coinOf_22 rfl (Nat.le_of_ble_eq_true rfl) rfl ?_
      refine st_goto (tg := 2) (pc := 25) hC dX11_coinOf_25 (by decide) ?_
      exact h
  · refine st_iconst (pc := 28) hC dX11_coinOf_28 (by decide) ?_
    exact st_ireturn (pc := 29) hC dX11_coinOf_29 trivial h
theorem bX11_readPrime_0 {C : Nat → List Vv → Sg → Rs → Sg → Prop} {X : Nat → List Vv → List Vv → Sg → Prop} {Xr : List Vv → Sg → Prop} {Xt : Nat → Sg → Prop} (hC : Clo C 11 cX11_readPrime none X Xr Xt) {σ : Sg} (h : ∃ v1 : Int, C MX11_isNumber [rV 20 66] σ (.inl [iV v1]) σ ∧ (if v1 = 0 then (∃ σ2 : Sg, C MX11_blames [rV 20 66, iV 2] σ (.inl []) σ2 ∧ (Xr [] σ2)) else (∃ v3 : Int, C MX11_within [lV (σ 66 12), lV 2, lV 97] σ (.inl [iV v3]) σ ∧ (if v3 = 0 then (∃ σ4 : Sg, C MX11_blames [rV 20 66, iV 3] σ (.inl []) σ4 ∧ (if (σ4 68 1) = 8 then (∃ σ5 : Sg, C MX11_blames [rV 20 66, iV 4] σ4 (.inl []) σ5 ∧ (if (σ5 66 13) = 0 then ((0 ≤ (w32 (4 + (σ5 68 1))) ∧ (w32 (4 + (σ5 68 1))) < 181) ∧ (∃ σ6 : Sg, C MX11_reads [rV 20 66] (upS (upS σ5 68 ((w32 (4 + (σ5 68 1)))).toNat (σ5 66 12)) 68 1 (w32 (((upS σ5 68 ((w32 (4 + (σ5 68 1)))).toNat (σ5 66 12)) 68 1) + 1))) (.inl []) σ6 ∧ (Xr [] σ6))) else (Xr [] σ5))) else (if (σ4 66 13) = 0 then ((0 ≤ (w32 (4 + (σ4 68 1))) ∧ (w32 (4 + (σ4 68 1))) < 181) ∧ (∃ σ7 : Sg, C MX11_reads [rV 20 66] (upS (upS σ4 68 ((w32 (4 + (σ4 68 1)))).toNat (σ4 66 12)) 68 1 (w32 (((upS σ4 68 ((w32 (4 + (σ4 68 1)))).toNat (σ4 66 12)) 68 1) + 1))) (.inl []) σ7 ∧ (Xr [] σ7))) else (Xr [] σ4)))) else (∃ v8 : Int, C MX11_isPrime [iV (σ 66 12)] σ (.inl [iV v8]) σ ∧ (if v8 = 0 then (∃ σ9 : Sg, C MX11_blames [rV 20 66, iV 3] σ (.inl []) σ9 ∧ (if (σ9 68 1) = 8 then (∃ σ10 : Sg, C MX11_blames [rV 20 66, iV 4] σ9 (.inl []) σ10 ∧ (if (σ10 66 13) = 0 then ((0 ≤ (w32 (4 + (σ10 68 1))) ∧ (w32 (4 + (σ10 68 1))) < 181) ∧ (∃ σ11 : Sg, C MX11_reads [rV 20 66] (upS (upS σ10 68 ((w32 (4 + (σ10 68 1)))).toNat (σ10 66 12)) 68 1 (w32 (((upS σ10 68 ((w32 (4 + (σ10 68 1)))).toNat (σ10 66 12)) 68 1) + 1))) (.inl []) σ11 ∧ (Xr [] σ11))) else (Xr [] σ10))) else (if (σ9 66 13) = 0 then ((0 ≤ (w32 (4 + (σ9 68 1))) ∧ (w32 (4 + (σ9 68 1))) < 181) ∧ (∃ σ12 : Sg, C MX11_reads [rV 20 66] (upS (upS σ9 68 ((w32 (4 + (σ9 68 1)))).toNat (σ9 66 12)) 68 1 (w32 (((upS σ9 68 ((w32 (4 + (σ9 68 1)))).toNat (σ9 66 12)) 68 1) + 1))) (.inl []) σ12 ∧ (Xr [] σ12))) else (Xr [] σ9)))) else (∃ v13 : Int, C MX11_coinOf [rV 1000181 68, lV (σ 66 12)] σ (.inl [iV v13]) σ ∧ (if v13 = (-1) then (if (σ 68 1) = 8 then (∃ σ14 : Sg, C MX11_blames [rV 20 66, iV 4] σ (.inl []) σ14 ∧ (if (σ14 66 13) = 0 then ((0 ≤ (w32 (4 + (σ14 68 1))) ∧ (w32 (4 + (σ14 68 1))) < 181) ∧ (∃ σ15 : Sg, C MX11_reads [rV 20 66] (upS (upS σ14 68 ((w32 (4 + (σ14 68 1)))).toNat (σ14 66 12)) 68 1 (w32 (((upS σ14 68 ((w32 (4 + (σ14 68 1)))).toNat (σ14 66 12)) 68 1) + 1))) (.inl []) σ15 ∧ (Xr [] σ15))) else (Xr [] σ14))) else (if (σ 66 13) = 0 then ((0 ≤ (w32 (4 + (σ 68 1))) ∧ (w32 (4 + (σ 68 1))) < 181) ∧ (∃ σ16 : Sg, C MX11_reads [rV 20 66] (upS (upS σ 68 ((w32 (4 + (σ 68 1)))).toNat (σ 66 12)) 68 1 (w32 (((upS σ 68 ((w32 (4 + (σ 68 1)))).toNat (σ 66 12)) 68 1) + 1))) (.inl []) σ16 ∧ (Xr [] σ16))) else (Xr [] σ))) else (∃ σ17 : Sg, C MX11_blames [rV 20 66, iV 3] σ (.inl []) σ17 ∧ (if (σ17 68 1) = 8 then (∃ σ18 : Sg, C MX11_blames [rV 20 66, iV 4] σ17 (.inl []) σ18 ∧ (if (σ18 66 13) = 0 then ((0 ≤ (w32 (4 + (σ18 68 1))) ∧ (w32 (4 + (σ18 68 1))) < 181) ∧ (∃ σ19 : Sg, C MX11_reads [rV 20 66] (upS (upS σ18 68 ((w32 (4 + (σ18 68 1)))).toNat (σ18 66 12)) 68 1 (w32 (((upS σ18 68 ((w32 (4 + (σ18 68 1)))).toNat (σ18 66 12)) 68 1) + 1))) (.inl []) σ19 ∧ (Xr [] σ19))) else (Xr [] σ18))) else (if (σ17 66 13) = 0 then ((0 ≤ (w32 (4 + (σ17 68 1))) ∧ (w32 (4 + (σ17 68 1))) < 181) ∧ (∃ σ20 : Sg, C MX11_reads [rV 20 66] (upS (upS σ17 68 ((w32 (4 + (σ17 68 1)))).toNat (σ17 66 12)) 68 1 (w32 (((upS σ17 68 ((w32 (4 + (σ17 68 1)))).toNat (σ17 66 12)) 68 1) + 1))) (.inl []) σ20 ∧ (Xr [] σ20))) else (Xr [] σ17)))))))))))) : X 0 [rV 20 66] [] σ := by
  refine st_aload_n (pc := 0) hC dX11_readPrime_0 rfl (by decide) (by decide) ?_
  obtain ⟨v1, hq, h⟩ := h
  refine st_invV (As := []) (v := [iV v1]) (S := []) (pc := 1) hC dX11_readPrime_1 cl_11_125 rfl rfl (Nat.le_of_ble_eq_true rfl) cr_X11_isNumber hq ?_
  refine st_if_ne (tg := 13) (pc := 4) hC dX11_readPrime_4 (by decide) (ite_im h (fun h => ?_) (fun h => ?_))
  · refine st_aload_n (pc := 7) hC dX11_readPrime_7 rfl (by decide) (by decide) ?_
    refine st_iconst (pc := 8) hC dX11_readPrime_8 (by decide) ?_
    obtain ⟨σ2, hq, h⟩ := h
    refine st_invV (As := [iV 2]) (v := []) (S := []) (pc := 9) hC dX11_readPrime_9 cl_11_121 rfl rfl (Nat.le_of_ble_eq_true rfl) cr_X11_blames hq ?_
    exact st_return (pc := 12) hC dX11_readPrime_12 h
  · refine st_aload_n (pc := 13) hC dX11_readPrime_13 rfl (by decide) (by decide) ?_
    refine st_getf (ci := 10) (f := 12) (v := iV (σ 66 12)) (pc := 14) hC dX11_readPrime_14 fl_11_93 rfl rfl ?_
    refine st_i2l (pc := 17) hC dX11_readPrime_17 ?_
    refine st_ldc2 (pc := 18) hC dX11_readPrime_18 rfl ?_
    refine st_ldc2 (pc := 21) hC dX11_readPrime_21 rfl ?_
    obtain ⟨v3, hq, h⟩ := h
    refine st_invS (As := [lV (σ 66 12), lV 2, lV 97]) (v := [iV v3]) (S := []) (pc := 24) hC dX11_readPrime_24 cl_11_133 rfl rfl (Nat.le_of_ble_eq_true rfl) hq ?_
    refine st_if_eq (tg := 56) (pc := 27) hC dX11_readPrime_27 (by decide) (ite_im h (fun h => ?_) (fun h => ?_))
    · refine st_aload_n (pc := 56) hC dX11_readPrime_56 rfl (by decide) (by decide) ?_
      refine st_iconst (pc := 57) hC dX11_readPrime_57 (by decide) ?_
      obtain ⟨σ4, hq, h⟩ := h
      refine st_invV (As := [iV 3]) (v := []) (S := []) (pc := 58) hC dX11_readPrime_58 cl_11_121 rfl rfl (Nat.le_of_ble_eq_true rfl) cr_X11_blames hq ?_
      refine st_aload_n (pc := 61) hC dX11_readPrime_61 rfl (by decide) (by decide) ?_
      refine st_getf (ci := 10) (f := 1) (v := rV 1000181 68) (pc := 62) hC dX11_readPrime_62 fl_11_13 rfl rfl ?_
      refine st_iconst (pc := 65) hC dX11_readPrime_65 (by decide) ?_
      refine st_iald (n := 181) (pc := 66) hC dX11_readPrime_66 (by decide) ⟨by decide, by decide⟩ ?_
      refine st_bipush (pc := 67) hC dX11_readPrime_67 (by decide) ?_
      refine st_icmp_ne (tg := 77) (pc := 69) hC dX11_readPrime_69 (by decide) (ite_im h (fun h => ?_) (fun h => ?_))
      · refine st_aload_n (pc := 72) hC dX11_readPrime_72 rfl (by decide) (by decide) ?_
        refine st_iconst (pc := 73) hC dX11_readPrime_73 (by decide) ?_
        obtain ⟨σ5, hq, h⟩ := h
        refine st_invV (As := [iV 4]) (v := []) (S := []) (pc := 74) hC dX11_readPrime_74 cl_11_121 rfl rfl (Nat.le_of_ble_eq_true rfl) cr_X11_blames hq ?_
        refine st_aload_n (pc := 77) hC dX11_readPrime_77 rfl (by decide) (by decide) ?_
        refine st_getf (ci := 10) (f := 13) (v := iV (σ5 66 13)) (pc := 78) hC dX11_readPrime_78 fl_11_96 rfl rfl ?_
        refine st_if_eq (tg := 85) (pc := 81) hC dX11_readPrime_81 (by decide) (ite_im h (fun h => ?_) (fun h => ?_))
        · refine st_aload_n (pc := 85) hC dX11_readPrime_85 rfl (by decide) (by decide) ?_
          refine st_getf (ci := 10) (f := 1) (v := rV 1000181 68) (pc := 86) hC dX11_readPrime_86 fl_11_13 rfl rfl ?_
          refine st_iconst (pc := 89) hC dX11_readPrime_89 (by decide) ?_
          refine st_aload_n (pc := 90) hC dX11_readPrime_90 rfl (by decide) (by decide) ?_
          refine st_getf (ci := 10) (f := 1) (v := rV 1000181 68) (pc := 91) hC dX11_readPrime_91 fl_11_13 rfl rfl ?_
          refine st_iconst (pc := 94) hC dX11_readPrime_94 (by decide) ?_
          refine st_iald (n := 181) (pc := 95) hC dX11_readPrime_95 (by decide) ⟨by decide, by decide⟩ ?_
          refine st_iadd (pc := 96) hC dX11_readPrime_96 ?_
          refine st_aload_n (pc := 97) hC dX11_readPrime_97 rfl (by decide) (by decide) ?_
          refine st_getf (ci := 10) (f := 12) (v := iV (σ5 66 12)) (pc := 98) hC dX11_readPrime_98 fl_11_93 rfl rfl ?_
          obtain ⟨hb, h⟩ := h
          refine st_iast (n := 181) (pc := 101) hC dX11_readPrime_101 (by decide) hb ?_
          refine st_aload_n (pc := 102) hC dX11_readPrime_102 rfl (by decide) (by decide) ?_
          refine st_getf (ci := 10) (f := 1) (v := rV 1000181 68) (pc := 103) hC dX11_readPrime_103 fl_11_13 rfl rfl ?_
          refine st_iconst (pc := 106) hC dX11_readPrime_106 (by decide) ?_
          refine st_dup2IR (pc := 107) hC dX11_readPrime_107 (by decide) (by decide) ?_
          refine st_iald (n := 181) (pc := 108) hC dX11_readPrime_108 (by decide) ⟨by decide, by decide⟩ ?_
          refine st_iconst (pc := 109) hC dX11_readPrime_109 (by decide) ?_
          refine st_iadd (pc := 110) hC dX11_readPrime_110 ?_
          refine st_iast (n := 181) (pc := 111) hC dX11_readPrime_111 (by decide) ⟨by decide, by decide⟩ ?_
          refine st_aload_n (pc := 112) hC dX11_readPrime_112 rfl (by decide) (by decide) ?_
          obtain ⟨σ6, hq, h⟩ := h
          refine st_invV (As := []) (v := []) (S := []) (pc := 113) hC dX11_readPrime_113 cl_11_115 rfl rfl (Nat.le_of_ble_eq_true rfl) cr_X11_reads hq ?_
          exact st_return (pc := 116) hC dX11_readPrime_116 h
        · exact st_return (pc := 84) hC dX11_readPrime_84 h
      · refine st_aload_n (pc := 77) hC dX11_readPrime_77 rfl (by decide) (by decide) ?_
        refine st_getf (ci := 10) (f := 13) (v := iV (σ4 66 13)) (pc := 78) hC dX11_readPrime_78 fl_11_96 rfl rfl ?_
        refine st_if_eq (tg := 85) (pc := 81) hC dX11_readPrime_81 (by decide) (ite_im h (fun h => ?_) (fun h => ?_))
        · refine st_aload_n (pc := 85) hC dX11_readPrime_85 rfl (by decide) (by decide) ?_
          refine st_getf (ci := 10) (f := 1) (v := rV 1000181 68) (pc := 86) hC dX11_readPrime_86 fl_11_13 rfl rfl ?_
          refine st_iconst (pc := 89) hC dX11_readPrime_89 (by decide) ?_
          refine st_aload_n (pc := 90) hC dX11_readPrime_90 rfl (by decide) (by decide) ?_
          refine st_getf (ci := 10) (f := 1) (v := rV 1000181 68) (pc := 91) hC dX11_readPrime_91 fl_11_13 rfl rfl ?_
          refine st_iconst (pc := 94) hC dX11_readPrime_94 (by decide) ?_
          refine st_iald (n := 181) (pc := 95) hC dX11_readPrime_95 (by decide) ⟨by decide, by decide⟩ ?_
          refine st_iadd (pc := 96) hC dX11_readPrime_96 ?_
          refine st_aload_n (pc := 97) hC dX11_readPrime_97 rfl (by decide) (by decide) ?_
          refine st_getf (ci := 10) (f := 12) (v := iV (σ4 66 12)) (pc := 98) hC dX11_readPrime_98 fl_11_93 rfl rfl ?_
          obtain ⟨hb, h⟩ := h
          refine st_iast (n := 181) (pc := 101) hC dX11_readPrime_101 (by decide) hb ?_
          refine st_aload_n (pc := 102) hC dX11_readPrime_102 rfl (by decide) (by decide) ?_
          refine st_getf (ci := 10) (f := 1) (v := rV 1000181 68) (pc := 103) hC dX11_readPrime_103 fl_11_13 rfl rfl ?_
          refine st_iconst (pc := 106) hC dX11_readPrime_106 (by decide) ?_
          refine st_dup2IR (pc := 107) hC dX11_readPrime_107 (by decide) (by decide) ?_
          refine st_iald (n := 181) (pc := 108) hC dX11_readPrime_108 (by decide) ⟨by decide, by decide⟩ ?_
          refine st_iconst (pc := 109) hC dX11_readPrime_109 (by decide) ?_
          refine st_iadd (pc := 110) hC dX11_readPrime_110 ?_
          refine st_iast (n := 181) (pc := 111) hC dX11_readPrime_111 (by decide) ⟨by decide, by decide⟩ ?_
          refine st_aload_n (pc := 112) hC dX11_readPrime_112 rfl (by decide) (by decide) ?_
          obtain ⟨σ7, hq, h⟩ := h
          refine st_invV (As := []) (v := []) (S := []) (pc := 113) hC dX11_readPrime_113 cl_11_115 rfl rfl (Nat.le_of_ble_eq_true rfl) cr_X11_reads hq ?_
          exact st_return (pc := 116) hC dX11_readPrime_116 h
        · exact st_return (pc := 84) hC dX11_readPrime_84 h
    · refine st_aload_n (pc := 30) hC dX11_readPrime_30 rfl (by decide) (by decide) ?_
      refine st_getf (ci := 10) (f := 12) (v := iV (σ 66 12)) (pc := 31) hC dX11_readPrime_31 fl_11_93 rfl rfl ?_
      obtain ⟨v8, hq, h⟩ := h
      refine st_invS (As := [iV (σ 66 12)]) (v := [iV v8]) (S := []) (pc := 34) hC dX11_readPrime_34 cl_11_137 rfl rfl (Nat.le_of_ble_eq_true rfl) hq ?_
      refine st_if_eq (tg := 56) (pc := 37) hC dX11_readPrime_37 (by decide) (ite_im h (fun h => ?_) (fun h => ?_))
      · refine st_aload_n (pc := 56) hC dX11_readPrime_56 rfl (by decide) (by decide) ?_
        refine st_iconst (pc := 57) hC dX11_readPrime_57 (by decide) ?_
        obtain ⟨σ9, hq, h⟩ := h
        refine st_invV (As := [iV 3]) (v := []) (S := []) (pc := 58) hC dX11_readPrime_58 cl_11_121 rfl rfl (Nat.le_of_ble_eq_true rfl) cr_X11_blames hq ?_
        refine st_aload_n (pc := 61) hC dX11_readPrime_61 rfl (by decide) (by decide) ?_
        refine st_getf (ci := 10) (f := 1) (v := rV 1000181 68) (pc := 62) hC dX11_readPrime_62 fl_11_13 rfl rfl ?_
        refine st_iconst (pc := 65) hC dX11_readPrime_65 (by decide) ?_
        refine st_iald (n := 181) (pc := 66) hC dX11_readPrime_66 (by decide) ⟨by decide, by decide⟩ ?_
        refine st_bipush (pc := 67) hC dX11_readPrime_67 (by decide) ?_
        refine st_icmp_ne (tg := 77) (pc := 69) hC dX11_readPrime_69 (by decide) (ite_im h (fun h => ?_) (fun h => ?_))
        · refine st_aload_n (pc := 72) hC dX11_readPrime_72 rfl (by decide) (by decide) ?_
          refine st_iconst (pc := 73) hC dX11_readPrime_73 (by decide) ?_
          obtain ⟨σ10, hq, h⟩ := h
          refine st_invV (As := [iV 4]) (v := []) (S := []) (pc := 74) hC dX11_readPrime_74 cl_11_121 rfl rfl (Nat.le_of_ble_eq_true rfl) cr_X11_blames hq ?_
          refine st_aload_n (pc := 77) hC dX11_readPrime_77 rfl (by decide) (by decide) ?_
          refine st_getf (ci := 10) (f := 13) (v := iV (σ10 66 13)) (pc := 78) hC dX11_readPrime_78 fl_11_96 rfl rfl ?_
          refine st_if_eq (tg := 85) (pc := 81) hC dX11_readPrime_81 (by decide) (ite_im h (fun h => ?_) (fun h => ?_))
          · refine st_aload_n (pc := 85) hC dX11_readPrime_85 rfl (by decide) (by decide) ?_
            refine st_getf (ci := 10) (f := 1) (v := rV 1000181 68) (pc := 86) hC dX11_readPrime_86 fl_11_13 rfl rfl ?_
            refine st_iconst (pc := 89) hC dX11_readPrime_89 (by decide) ?_
            refine st_aload_n (pc := 90) hC dX11_readPrime_90 rfl (by decide) (by decide) ?_
            refine st_getf (ci := 10) (f := 1) (v := rV 1000181 68) (pc := 91) hC dX11_readPrime_91 fl_11_13 rfl rfl ?_
            refine st_iconst (pc := 94) hC dX11_readPrime_94 (by decide) ?_
            refine st_iald (n := 181) (pc := 95) hC dX11_readPrime_95 (by decide) ⟨by decide, by decide⟩ ?_
            refine st_iadd (pc := 96) hC dX11_readPrime_96 ?_
            refine st_aload_n (pc := 97) hC dX11_readPrime_97 rfl (by decide) (by decide) ?_
            refine st_getf (ci := 10) (f := 12) (v := iV (σ10 66 12)) (pc := 98) hC dX11_readPrime_98 fl_11_93 rfl rfl ?_
            obtain ⟨hb, h⟩ := h
            refine st_iast (n := 181) (pc := 101) hC dX11_readPrime_101 (by decide) hb ?_
            refine st_aload_n (pc := 102) hC dX11_readPrime_102 rfl (by decide) (by decide) ?_
            refine st_getf (ci := 10) (f := 1) (v := rV 1000181 68) (pc := 103) hC dX11_readPrime_103 fl_11_13 rfl rfl ?_
            refine st_iconst (pc := 106) hC dX11_readPrime_106 (by decide) ?_
            refine st_dup2IR (pc := 107) hC dX11_readPrime_107 (by decide) (by decide) ?_
            refine st_iald (n := 181) (pc := 108) hC dX11_readPrime_108 (by decide) ⟨by decide, by decide⟩ ?_
            refine st_iconst (pc := 109) hC dX11_readPrime_109 (by decide) ?_
            refine st_iadd (pc := 110) hC dX11_readPrime_110 ?_
            refine st_iast (n := 181) (pc := 111) hC dX11_readPrime_111 (by decide) ⟨by decide, by decide⟩ ?_
            refine st_aload_n (pc := 112) hC dX11_readPrime_112 rfl (by decide) (by decide) ?_
            obtain ⟨σ11, hq, h⟩ := h
            refine st_invV (As := []) (v := []) (S := []) (pc := 113) hC dX11_readPrime_113 cl_11_115 rfl rfl (Nat.le_of_ble_eq_true rfl) cr_X11_reads hq ?_
            exact st_return (pc := 116) hC dX11_readPrime_116 h
          · exact st_return (pc := 84) hC dX11_readPrime_84 h
        · refine st_aload_n (pc := 77) hC dX11_readPrime_77 rfl (by decide) (by decide) ?_
          refine st_getf (ci := 10) (f := 13) (v := iV (σ9 66 13)) (pc := 78) hC dX11_readPrime_78 fl_11_96 rfl rfl ?_
          refine st_if_eq (tg := 85) (pc := 81) hC dX11_readPrime_81 (by decide) (ite_im h (fun h => ?_) (fun h => ?_))
          · refine st_aload_n (pc := 85) hC dX11_readPrime_85 rfl (by decide) (by decide) ?_
            refine st_getf (ci := 10) (f := 1) (v := rV 1000181 68) (pc := 86) hC dX11_readPrime_86 fl_11_13 rfl rfl ?_
            refine st_iconst (pc := 89) hC dX11_readPrime_89 (by decide) ?_
            refine st_aload_n (pc := 90) hC dX11_readPrime_90 rfl (by decide) (by decide) ?_
            refine st_getf (ci := 10) (f := 1) (v := rV 1000181 68) (pc := 91) hC dX11_readPrime_91 fl_11_13 rfl rfl ?_
            refine st_iconst (pc := 94) hC dX11_readPrime_94 (by decide) ?_
            refine st_iald (n := 181) (pc := 95) hC dX11_readPrime_95 (by decide) ⟨by decide, by decide⟩ ?_
            refine st_iadd (pc := 96) hC dX11_readPrime_96 ?_
            refine st_aload_n (pc := 97) hC dX11_readPrime_97 rfl (by decide) (by decide) ?_
            refine st_getf (ci := 10) (f := 12) (v := iV (σ9 66 12)) (pc := 98) hC dX11_readPrime_98 fl_11_93 rfl rfl ?_
            obtain ⟨hb, h⟩ := h
            refine st_iast (n := 181) (pc := 101) hC dX11_readPrime_101 (by decide) hb ?_
            refine st_aload_n (pc := 102) hC dX11_readPrime_102 rfl (by decide) (by decide) ?_
            refine st_getf (ci := 10) (f := 1) (v := rV 1000181 68) (pc := 103) hC dX11_readPrime_103 fl_11_13 rfl rfl ?_
            refine st_iconst (pc := 106) hC dX11_readPrime_106 (by decide) ?_
            refine st_dup2IR (pc := 107) hC dX11_readPrime_107 (by decide) (by decide) ?_
            refine st_iald (n := 181) (pc := 108) hC dX11_readPrime_108 (by decide) ⟨by decide, by decide⟩ ?_
            refine st_iconst (pc := 109) hC dX11_readPrime_109 (by decide) ?_
            refine st_iadd (pc := 110) hC dX11_readPrime_110 ?_
            refine st_iast (n := 181) (pc := 111) hC dX11_readPrime_111 (by decide) ⟨by decide, by decide⟩ ?_
            refine st_aload_n (pc := 112) hC dX11_readPrime_112 rfl (by decide) (by decide) ?_
            obtain ⟨σ12, hq, h⟩ := h
            refine st_invV (As := []) (v := []) (S := []) (pc := 113) hC dX11_readPrime_113 cl_11_115 rfl rfl (Nat.le_of_ble_eq_true rfl) cr_X11_reads hq ?_
            exact st_return (pc := 116) hC dX11_readPrime_116 h
          · exact st_return (pc := 84) hC dX11_readPrime_84 h
      · refine st_aload_n (pc := 40) hC dX11_readPrime_40 rfl (by decide) (by decide) ?_
        refine st_getf (ci := 10) (f := 1) (v := rV 1000181 68) (pc := 41) hC dX11_readPrime_41 fl_11_13 rfl rfl ?_
        refine st_aload_n (pc := 44) hC dX11_readPrime_44 rfl (by decide) (by decide) ?_
        refine st_getf (ci := 10) (f := 12) (v := iV (σ 66 12)) (pc := 45) hC dX11_readPrime_45 fl_11_93 rfl rfl ?_
        refine st_i2l (pc := 48) hC dX11_readPrime_48 ?_
        obtain ⟨v13, hq, h⟩ := h
        refine st_invS (As := [rV 1000181 68, lV (σ 66 12)]) (v := [iV v13]) (S := []) (pc := 49) hC dX11_readPrime_49 cl_11_140 rfl rfl (Nat.le_of_ble_eq_true rfl) hq ?_
        refine st_iconst (pc := 52) hC dX11_readPrime_52 (by decide) ?_
        refine st_icmp_eq (tg := 61) (pc := 53) hC dX11_readPrime_53 (by decide) (ite_im h (fun h => ?_) (fun h => ?_))
        · refine st_aload_n (pc := 61) hC dX11_readPrime_61 rfl (by decide) (by decide) ?_
          refine st_getf (ci := 10) (f := 1) (v := rV 1000181 68) (pc := 62) hC dX11_readPrime_62 fl_11_13 rfl rfl ?_
          refine st_iconst (pc := 65) hC dX11_readPrime_65 (by decide) ?_
          refine st_iald (n := 181) (pc := 66) hC dX11_readPrime_66 (by decide) ⟨by decide, by decide⟩ ?_
          refine st_bipush (pc := 67) hC dX11_readPrime_67 (by decide) ?_
          refine st_icmp_ne (tg := 77) (pc := 69) hC dX11_readPrime_69 (by decide) (ite_im h (fun h => ?_) (fun h => ?_))
          · refine st_aload_n (pc := 72) hC dX11_readPrime_72 rfl (by decide) (by decide) ?_
            refine st_iconst (pc := 73) hC dX11_readPrime_73 (by decide) ?_
            obtain ⟨σ14, hq, h⟩ := h
            refine st_invV (As := [iV 4]) (v := []) (S := []) (pc := 74) hC dX11_readPrime_74 cl_11_121 rfl rfl (Nat.le_of_ble_eq_true rfl) cr_X11_blames hq ?_
            refine st_aload_n (pc := 77) hC dX11_readPrime_77 rfl (by decide) (by decide) ?_
            refine st_getf (ci := 10) (f := 13) (v := iV (σ14 66 13)) (pc := 78) hC dX11_readPrime_78 fl_11_96 rfl rfl ?_
            refine st_if_eq (tg := 85) (pc := 81) hC dX11_readPrime_81 (by decide) (ite_im h (fun h => ?_) (fun h => ?_))
            · refine st_aload_n (pc := 85) hC dX11_readPrime_85 rfl (by decide) (by decide) ?_
              refine st_getf (ci := 10) (f := 1) (v := rV 1000181 68) (pc := 86) hC dX11_readPrime_86 fl_11_13 rfl rfl ?_
              refine st_iconst (pc := 89) hC dX11_readPrime_89 (by decide) ?_
              refine st_aload_n (pc := 90) hC dX11_readPrime_90 rfl (by decide) (by decide) ?_
              refine st_getf (ci := 10) (f := 1) (v := rV 1000181 68) (pc := 91) hC dX11_readPrime_91 fl_11_13 rfl rfl ?_
              refine st_iconst (pc := 94) hC dX11_readPrime_94 (by decide) ?_
              refine st_iald (n := 181) (pc := 95) hC dX11_readPrime_95 (by decide) ⟨by decide, by decide⟩ ?_
              refine st_iadd (pc := 96) hC dX11_readPrime_96 ?_
              refine st_aload_n (pc := 97) hC dX11_readPrime_97 rfl (by decide) (by decide) ?_
              refine st_getf (ci := 10) (f := 12) (v := iV (σ14 66 12)) (pc := 98) hC dX11_readPrime_98 fl_11_93 rfl rfl ?_
              obtain ⟨hb, h⟩ := h
              refine st_iast (n := 181) (pc := 101) hC dX11_readPrime_101 (by decide) hb ?_
              refine st_aload_n (pc := 102) hC dX11_readPrime_102 rfl (by decide) (by decide) ?_
              refine st_getf (ci := 10) (f := 1) (v := rV 1000181 68) (pc := 103) hC dX11_readPrime_103 fl_11_13 rfl rfl ?_
              refine st_iconst (pc := 106) hC dX11_readPrime_106 (by decide) ?_
              refine st_dup2IR (pc := 107) hC dX11_readPrime_107 (by decide) (by decide) ?_
              refine st_iald (n := 181) (pc := 108) hC dX11_readPrime_108 (by decide) ⟨by decide, by decide⟩ ?_
              refine st_iconst (pc := 109) hC dX11_readPrime_109 (by decide) ?_
              refine st_iadd (pc := 110) hC dX11_readPrime_110 ?_
              refine st_iast (n := 181) (pc := 111) hC dX11_readPrime_111 (by decide) ⟨by decide, by decide⟩ ?_
              refine st_aload_n (pc := 112) hC dX11_readPrime_112 rfl (by decide) (by decide) ?_
              obtain ⟨σ15, hq, h⟩ := h
              refine st_invV (As := []) (v := []) (S := []) (pc := 113) hC dX11_readPrime_113 cl_11_115 rfl rfl (Nat.le_of_ble_eq_true rfl) cr_X11_reads hq ?_
              exact st_return (pc := 116) hC dX11_readPrime_116 h
            · exact st_return (pc := 84) hC dX11_readPrime_84 h
          · refine st_aload_n (pc := 77) hC dX11_readPrime_77 rfl (by decide) (by decide) ?_
            refine st_getf (ci := 10) (f := 13) (v := iV (σ 66 13)) (pc := 78) hC dX11_readPrime_78 fl_11_96 rfl rfl ?_
            refine st_if_eq (tg := 85) (pc := 81) hC dX11_readPrime_81 (by decide) (ite_im h (fun h => ?_) (fun h => ?_))
            · refine st_aload_n (pc := 85) hC dX11_readPrime_85 rfl (by decide) (by decide) ?_
              refine st_getf (ci := 10) (f := 1) (v := rV 1000181 68) (pc := 86) hC dX11_readPrime_86 fl_11_13 rfl rfl ?_
              refine st_iconst (pc := 89) hC dX11_readPrime_89 (by decide) ?_
              refine st_aload_n (pc := 90) hC dX11_readPrime_90 rfl (by decide) (by decide) ?_
              refine st_getf (ci := 10) (f := 1) (v := rV 1000181 68) (pc := 91) hC dX11_readPrime_91 fl_11_13 rfl rfl ?_
              refine st_iconst (pc := 94) hC dX11_readPrime_94 (by decide) ?_
              refine st_iald (n := 181) (pc := 95) hC dX11_readPrime_95 (by decide) ⟨by decide, by decide⟩ ?_
              refine st_iadd (pc := 96) hC dX11_readPrime_96 ?_
              refine st_aload_n (pc := 97) hC dX11_readPrime_97 rfl (by decide) (by decide) ?_
              refine st_getf (ci := 10) (f := 12) (v := iV (σ 66 12)) (pc := 98) hC dX11_readPrime_98 fl_11_93 rfl rfl ?_
              obtain ⟨hb, h⟩ := h
              refine st_iast (n := 181) (pc := 101) hC dX11_readPrime_101 (by decide) hb ?_
              refine st_aload_n (pc := 102) hC dX11_readPrime_102 rfl (by decide) (by decide) ?_
              refine st_getf (ci := 10) (f := 1) (v := rV 1000181 68) (pc := 103) hC dX11_readPrime_103 fl_11_13 rfl rfl ?_
              refine st_iconst (pc := 106) hC dX11_readPrime_106 (by decide) ?_
              refine st_dup2IR (pc := 107) hC dX11_readPrime_107 (by decide) (by decide) ?_
              refine st_iald (n := 181) (pc := 108) hC dX11_readPrime_108 (by decide) ⟨by decide, by decide⟩ ?_
              refine st_iconst (pc := 109) hC dX11_readPrime_109 (by decide) ?_
              refine st_iadd (pc := 110) hC dX11_readPrime_110 ?_
              refine st_iast (n := 181) (pc := 111) hC dX11_readPrime_111 (by decide) ⟨by decide, by decide⟩ ?_
              refine st_aload_n (pc := 112) hC dX11_readPrime_112 rfl (by decide) (by decide) ?_
              obtain ⟨σ16, hq, h⟩ := h
              refine st_invV (As := []) (v := []) (S := []) (pc := 113) hC dX11_readPrime_113 cl_11_115 rfl rfl (Nat.le_of_ble_eq_true rfl) cr_X11_reads hq ?_
              exact st_return (pc := 116) hC dX11_readPrime_116 h
            · exact st_return (pc := 84) hC dX11_readPrime_84 h
        · refine st_aload_n (pc := 56) hC dX11_readPrime_56 rfl (by decide) (by decide) ?_
          refine st_iconst (pc := 57) hC dX11_readPrime_57 (by decide) ?_
          obtain ⟨σ17, hq, h⟩ := h
          refine st_invV (As := [iV 3]) (v := []) (S := []) (pc := 58) hC dX11_readPrime_58 cl_11_121 rfl rfl (Nat.le_of_ble_eq_true rfl) cr_X11_blames hq ?_
          refine st_aload_n (pc := 61) hC dX11_readPrime_61 rfl (by decide) (by decide) ?_
          refine st_getf (ci := 10) (f := 1) (v := rV 1000181 68) (pc := 62) hC dX11_readPrime_62 fl_11_13 rfl rfl ?_
          refine st_iconst (pc := 65) hC dX11_readPrime_65 (by decide) ?_
          refine st_iald (n := 181) (pc := 66) hC dX11_readPrime_66 (by decide) ⟨by decide, by decide⟩ ?_
          refine st_bipush (pc := 67) hC dX11_readPrime_67 (by decide) ?_
          refine st_icmp_ne (tg := 77) (pc := 69) hC dX11_readPrime_69 (by decide) (ite_im h (fun h => ?_) (fun h => ?_))
          · refine st_aload_n (pc := 72) hC dX11_readPrime_72 rfl (by decide) (by decide) ?_
            refine st_iconst (pc := 73) hC dX11_readPrime_73 (by decide) ?_
            obtain ⟨σ18, hq, h⟩ := h
            refine st_invV (As := [iV 4]) (v := []) (S := []) (pc := 74) hC dX11_readPrime_74 cl_11_121 rfl rfl (Nat.le_of_ble_eq_true rfl) cr_X11_blames hq ?_
            refine st_aload_n (pc := 77) hC dX11_readPrime_77 rfl (by decide) (by decide) ?_
            refine st_getf (ci := 10) (f := 13) (v := iV (σ18 66 13)) (pc := 78) hC dX11_readPrime_78 fl_11_96 rfl rfl ?_
            refine st_if_eq (tg := 85) (pc := 81) hC dX11_readPrime_81 (by decide) (ite_im h (fun h => ?_) (fun h => ?_))
            · refine st_aload_n (pc := 85) hC dX11_readPrime_85 rfl (by decide) (by decide) ?_
              refine st_getf (ci := 10) (f := 1) (v := rV 1000181 68) (pc := 86) hC dX11_readPrime_86 fl_11_13 rfl rfl ?_
              refine st_iconst (pc := 89) hC dX11_readPrime_89 (by decide) ?_
              refine st_aload_n (pc := 90) hC dX11_readPrime_90 rfl (by decide) (by decide) ?_
              refine st_getf (ci := 10) (f := 1) (v := rV 1000181 68) (pc := 91) hC dX11_readPrime_91 fl_11_13 rfl rfl ?_
              refine st_iconst (pc := 94) hC dX11_readPrime_94 (by decide) ?_
              refine st_iald (n := 181) (pc := 95) hC dX11_readPrime_95 (by decide) ⟨by decide, by decide⟩ ?_
              refine st_iadd (pc := 96) hC dX11_readPrime_96 ?_
              refine st_aload_n (pc := 97) hC dX11_readPrime_97 rfl (by decide) (by decide) ?_
              refine st_getf (ci := 10) (f := 12) (v := iV (σ18 66 12)) (pc := 98) hC dX11_readPrime_98 fl_11_93 rfl rfl ?_
              obtain ⟨hb, h⟩ := h
              refine st_iast (n := 181) (pc := 101) hC dX11_readPrime_101 (by decide) hb ?_
              refine st_aload_n (pc := 102) hC dX11_readPrime_102 rfl (by decide) (by decide) ?_
              refine st_getf (ci := 10) (f := 1) (v := rV 1000181 68) (pc := 103) hC dX11_readPrime_103 fl_11_13 rfl rfl ?_
              refine st_iconst (pc := 106) hC dX11_readPrime_106 (by decide) ?_
              refine st_dup2IR (pc := 107) hC dX11_readPrime_107 (by decide) (by decide) ?_
              refine st_iald (n := 181) (pc := 108) hC dX11_readPrime_108 (by decide) ⟨by decide, by decide⟩ ?_
              refine st_iconst (pc := 109) hC dX11_readPrime_109 (by decide) ?_
              refine st_iadd (pc := 110) hC dX11_readPrime_110 ?_
              refine st_iast (n := 181) (pc := 111) hC dX11_readPrime_111 (by decide) ⟨by decide, by decide⟩ ?_
              refine st_aload_n (pc := 112) hC dX11_readPrime_112 rfl (by decide) (by decide) ?_
              obtain ⟨σ19, hq, h⟩ := h
              refine st_invV (As := []) (v := []) (S := []) (pc := 113) hC dX11_readPrime_113 cl_11_115 rfl rfl (Nat.le_of_ble_eq_true rfl) cr_X11_reads hq ?_
              exact st_return (pc := 116) hC dX11_readPrime_116 h
            · exact st_return (pc := 84) hC dX11_readPrime_84 h
          · refine st_aload_n (pc := 77) hC dX11_readPrime_77 rfl (by decide) (by decide) ?_
            refine st_getf (ci := 10) (f := 13) (v := iV (σ17 66 13)) (pc := 78) hC dX11_readPrime_78 fl_11_96 rfl rfl ?_
            refine st_if_eq (tg := 85) (pc := 81) hC dX11_readPrime_81 (by decide) (ite_im h (fun h => ?_) (fun h => ?_))
            · refine st_aload_n (pc := 85) hC dX11_readPrime_85 rfl (by decide) (by decide) ?_
              refine st_getf (ci := 10) (f := 1) (v := rV 1000181 68) (pc := 86) hC dX11_readPrime_86 fl_11_13 rfl rfl ?_
              refine st_iconst (pc := 89) hC dX11_readPrime_89 (by decide) ?_
              refine st_aload_n (pc := 90) hC dX11_readPrime_90 rfl (by decide) (by decide) ?_
              refine st_getf (ci := 10) (f := 1) (v := rV 1000181 68) (pc := 91) hC dX11_readPrime_91 fl_11_13 rfl rfl ?_
              refine st_iconst (pc := 94) hC dX11_readPrime_94 (by decide) ?_
              refine st_iald (n := 181) (pc := 95) hC dX11_readPrime_95 (by decide) ⟨by decide, by decide⟩ ?_
              refine st_iadd (pc := 96) hC dX11_readPrime_96 ?_
              refine st_aload_n (pc := 97) hC dX11_readPrime_97 rfl (by decide) (by decide) ?_
              refine st_getf (ci := 10) (f := 12) (v := iV (σ17 66 12)) (pc := 98) hC dX11_readPrime_98 fl_11_93 rfl rfl ?_
              obtain ⟨hb, h⟩ := h
              refine st_iast (n := 181) (pc := 101) hC dX11_readPrime_101 (by decide) hb ?_
              refine st_aload_n (pc := 102) hC dX11_readPrime_102 rfl (by decide) (by decide) ?_
              refine st_getf (ci := 10) (f := 1) (v := rV 1000181 68) (pc := 103) hC dX11_readPrime_103 fl_11_13 rfl rfl ?_
              refine st_iconst (pc := 106) hC dX11_readPrime_106 (by decide) ?_
              refine st_dup2IR (pc := 107) hC dX11_readPrime_107 (by decide) (by decide) ?_
              refine st_iald (n := 181) (pc := 108) hC dX11_readPrime_108 (by decide) ⟨by decide, by decide⟩ ?_
              refine st_iconst (pc := 109) hC dX11_readPrime_109 (by decide) ?_
              refine st_iadd (pc := 110) hC dX11_readPrime_110 ?_
              refine st_iast (n := 181) (pc := 111) hC dX11_readPrime_111 (by decide) ⟨by decide, by decide⟩ ?_
              refine st_aload_n (pc := 112) hC dX11_readPrime_112 rfl (by decide) (by decide) ?_
              obtain ⟨σ20, hq, h⟩ := h
              refine st_invV (As := []) (v := []) (S := []) (pc := 113) hC dX11_readPrime_113 cl_11_115 rfl rfl (Nat.le_of_ble_eq_true rfl) cr_X11_reads hq ?_
              exact st_return (pc := 116) hC dX11_readPrime_116 h
            · exact st_return (pc := 84) hC dX11_readPrime_84 h
theorem bX11_readMint_0 {C : Nat → List Vv → Sg → Rs → Sg → Prop} {X : Nat → List Vv → List Vv → Sg → Prop} {Xr : List Vv → Sg → Prop} {Xt : Nat → Sg → Prop} (hC : Clo C 11 cX11_readMint none X Xr Xt) {σ : Sg} (h : ∃ σ1 : Sg, C MX11_must [rV 20 66, rV 30 1005] σ (.inl []) σ1 ∧ (∃ σ2 : Sg, C MX11_readPrime [rV 20 66] σ1 (.inl []) σ2 ∧ (X 10 [rV 20 66] [] σ2))) : X 0 [rV 20 66] [] σ := by
  refine st_aload_n (pc := 0) hC dX11_readMint_0 rfl (by decide) (by decide) ?_
  refine st_ldcS (j := 5) (pc := 1) hC dX11_readMint_1 rfl ?_
  obtain ⟨σ1, hq, h⟩ := h
  refine st_invV (As := [rV 30 1005]) (v := []) (S := []) (pc := 3) hC dX11_readMint_3 cl_11_146 rfl rfl (Nat.le_of_ble_eq_true rfl) cr_X11_must hq ?_
  refine st_aload_n (pc := 6) hC dX11_readMint_6 rfl (by decide) (by decide) ?_
  obtain ⟨σ2, hq, h⟩ := h
  refine st_invV (As := []) (v := []) (S := []) (pc := 7) hC dX11_readMint_7 cl_11_150 rfl rfl (Nat.le_of_ble_eq_true rfl) cr_X11_readPrime hq ?_
  exact h
theorem bX11_readMint_10 {C : Nat → List Vv → Sg → Rs → Sg → Prop} {X : Nat → List Vv → List Vv → Sg → Prop} {Xr : List Vv → Sg → Prop} {Xt : Nat → Sg → Prop} (hC : Clo C 11 cX11_readMint none X Xr Xt) {σ : Sg} (h : ∃ v1 : Int, C MX11_isNumber [rV 20 66] σ (.inl [iV v1]) σ ∧ (if v1 = 0 then (Xr [] σ) else (∃ σ2 : Sg, C MX11_readPrime [rV 20 66] σ (.inl []) σ2 ∧ (X 10 [rV 20 66] [] σ2)))) : X 10 [rV 20 66] [] σ := by
  refine st_aload_n (pc := 10) hC dX11_readMint_10 rfl (by decide) (by decide) ?_
  obtain ⟨v1, hq, h⟩ := h
  refine st_invV (As := []) (v := [iV v1]) (S := []) (pc := 11) hC dX11_readMint_11 cl_11_125 rfl rfl (Nat.le_of_ble_eq_true rfl) cr_X11_isNumber hq ?_
  refine st_if_eq (tg := 24) (pc := 14) hC dX11_readMint_14 (by decide) (ite_im h (fun h => ?_) (fun h => ?_))
  · exact st_return (pc := 24) hC dX11_readMint_24 h
  · refine st_aload_n (pc := 17) hC dX11_readMint_17 rfl (by decide) (by decide) ?_
    obtain ⟨σ2, hq, h⟩ := h
    refine st_invV (As := []) (v := []) (S := []) (pc := 18) hC dX11_readMint_18 cl_11_150 rfl rfl (Nat.le_of_ble_eq_true rfl) cr_X11_readPrime hq ?_
    refine st_goto (tg := 10) (pc := 21) hC dX11_readMint_21 (by decide) ?_
    exact h
theorem bX11_inPurse_0 {C : Nat → List Vv → Sg → Rs → Sg → Prop} {X : Nat → List Vv → List Vv → Sg → Prop} {Xr : List Vv → Sg → Prop} {Xt : Nat → Sg → Prop} (hC : Clo C 11 cX11_inPurse (some .int) X Xr Xt) {x1 : Int} {σ : Sg} (h : X 4 [rV 20 66, iV x1, iV 0, iV 0] [] σ) : X 0 [rV 20 66, iV x1, uV, uV] [] σ := by
  refine st_iconst (pc := 0) hC dX11_inPurse_0 (by decide) ?_
  refine st_istore_n (L2 := [rV 20 66, iV x1, iV 0, uV]) (pc := 1) hC dX11_inPurse_1 (Nat.le_of_ble_eq_true rfl) rfl ?_
  refine st_iconst (pc := 2) hC dX11_inPurse_2 (by decide) ?_
  refine st_istore_n (L2 := [rV 20 66, iV x1, iV 0, iV 0]) (pc := 3) hC dX11_inPurse_3 (Nat.le_of_ble_eq_true rfl) rfl ?_
  exact h
theorem bX11_inPurse_4 {C : Nat → List Vv → Sg → Rs → Sg → Prop} {X : Nat → List Vv → List Vv → Sg → Prop} {Xr : List Vv → Sg → Prop} {Xt : Nat → Sg → Prop} (hC : Clo C 11 cX11_inPurse (some .int) X Xr Xt) {x1 x2 x3 : Int} {σ : Sg} (h : if x3 < 8 then ((0 ≤ (w32 (x1 + x3)) ∧ (w32 (x1 + x3)) < 181) ∧ (X 4 [rV 20 66, iV x1, iV (w32 (x2 + (σ 68 ((w32 (x1 + x3))).toNat))), iV (w32 (x3 + 1))] [] σ)) else (Xr [iV x2] σ)) : X 4 [rV 20 66, iV x1, iV x2, iV x3] [] σ := by
  refine st_iload_n (pc := 4) hC dX11_inPurse_4 rfl ?_
  refine st_bipush (pc := 5) hC dX11_inPurse_5 (by decide) ?_
  refine st_icmp_ge (tg := 27) (pc := 7) hC dX11_inPurse_7 (by decide) (ite_im h (fun h => ?_) (fun h => ?_))
  · refine st_iload_n (pc := 10) hC dX11_inPurse_10 rfl ?_
    refine st_aload_n (pc := 11) hC dX11_inPurse_11 rfl (by decide) (by decide) ?_
    refine st_getf (ci := 10) (f := 1) (v := rV 1000181 68) (pc := 12) hC dX11_inPurse_12 fl_11_13 rfl rfl ?_
    refine st_iload_n (pc := 15) hC dX11_inPurse_15 rfl ?_
    refine st_iload_n (pc := 16) hC dX11_inPurse_16 rfl ?_
    refine st_iadd (pc := 17) hC dX11_inPurse_17 ?_
    obtain ⟨hb, h⟩ := h
    refine st_iald (n := 181) (pc := 18) hC dX11_inPurse_18 (by decide) hb ?_
    refine st_iadd (pc := 19) hC dX11_inPurse_19 ?_
    refine st_istore_n (L2 := [rV 20 66, iV x1, iV (w32 (x2 + (σ 68 ((w32 (x1 + x3))).toNat))), iV x3]) (pc := 20) hC dX11_inPurse_20 (Nat.le_of_ble_eq_true rfl) rfl ?_
    refine st_iinc (L2 := [rV 20 66, iV x1, iV (w32 (x2 + (σ 68 ((w32 (x1 + x3))).toNat))), iV (w32 (x3 + 1))]) (pc := 21) hC dX11_inPurse_21 rfl (Nat.le_of_ble_eq_true rfl) rfl ?_
    refine st_goto (tg := 4) (pc := 24) hC dX11_inPurse_24 (by decide) ?_
    exact h
  · refine st_iload_n (pc := 27) hC dX11_inPurse_27 rfl ?_
    exact st_ireturn (pc := 28) hC dX11_inPurse_28 trivial h
theorem bX11_readPurse_0 {C : Nat → List Vv → Sg → Rs → Sg → Prop} {X : Nat → List Vv → List Vv → Sg → Prop} {Xr : List Vv → Sg → Prop} {Xt : Nat → Sg → Prop} (hC : Clo C 11 cX11_readPurse none X Xr Xt) {σ : Sg} (h : if (σ 68 2) = 5 then (∃ σ1 : Sg, C MX11_blames [rV 20 66, iV 4] σ (.inl []) σ1 ∧ (if (σ1 66 13) = 0 then (∃ σ2 : Sg, C MX11_reads [rV 20 66] σ1 (.inl []) σ2 ∧ (X 42 [rV 20 66, iV (w32 (12 + (w32 (8 * (σ2 68 2))))), iV 0, uV] [] σ2)) else (Xr [] σ1))) else (if (σ 66 13) = 0 then (∃ σ3 : Sg, C MX11_reads [rV 20 66] σ (.inl []) σ3 ∧ (X 42 [rV 20 66, iV (w32 (12 + (w32 (8 * (σ3 68 2))))), iV 0, uV] [] σ3)) else (Xr [] σ))) : X 0 [rV 20 66, uV, uV, uV] [] σ := by
  refine st_aload_n (pc := 0) hC dX11_readPurse_0 rfl (by decide) (by decide) ?_
  refine st_getf (ci := 10) (f := 1) (v := rV 1000181 68) (pc := 1) hC dX11_readPurse_1 fl_11_13 rfl rfl ?_
  refine st_iconst (pc := 4) hC dX11_readPurse_4 (by decide) ?_
  refine st_iald (n := 181) (pc := 5) hC dX11_readPurse_5 (by decide) ⟨by decide, by decide⟩ ?_
  refine st_iconst (pc := 6) hC dX11_readPurse_6 (by decide) ?_
  refine st_icmp_ne (tg := 15) (pc := 7) hC dX11_readPurse_7 (by decide) (ite_im h (fun h => ?_) (fun h => ?_))
  · refine st_aload_n (pc := 10) hC dX11_readPurse_10 rfl (by decide) (by decide) ?_
    refine st_iconst (pc := 11) hC dX11_readPurse_11 (by decide) ?_
    obtain ⟨σ1, hq, h⟩ := h
    refine st_invV (As := [iV 4]) (v := []) (S := []) (pc := 12) hC dX11_readPurse_12 cl_11_121 rfl rfl (Nat.le_of_ble_eq_true rfl) cr_X11_blames hq ?_
    refine st_aload_n (pc := 15) hC dX11_readPurse_15 rfl (by decide) (by decide) ?_
    refine st_getf (ci := 10) (f := 13) (v := iV (σ1 66 13)) (pc := 16) hC dX11_readPurse_16 fl_11_96 rfl rfl ?_
    refine st_if_eq (tg := 23) (pc := 19) hC dX11_readPurse_19 (by decide) (ite_im h (fun h => ?_) (fun h => ?_))
    · refine st_aload_n (pc := 23) hC dX11_readPurse_23 rfl (by decide) (by decide) ?_
      obtain ⟨σ2, hq, h⟩ := h
      refine st_invV (As := []) (v := []) (S := []) (pc := 24) hC dX11_readPurse_24 cl_11_115 rfl rfl (Nat.le_of_ble_eq_true rfl) cr_X11_reads hq ?_
      refine st_bipush (pc := 27) hC dX11_readPurse_27 (by decide) ?_
      refine st_bipush (pc := 29) hC dX11_readPurse_29 (by decide) ?_
      refine st_aload_n (pc := 31) hC dX11_readPurse_31 rfl (by decide) (by decide) ?_
      refine st_getf (ci := 10) (f := 1) (v := rV 1000181 68) (pc := 32) hC dX11_readPurse_32 fl_11_13 rfl rfl ?_
      refine st_iconst (pc := 35) hC dX11_readPurse_35 (by decide) ?_
      refine st_iald (n := 181) (pc := 36) hC dX11_readPurse_36 (by decide) ⟨by decide, by decide⟩ ?_
      refine st_imul (pc := 37) hC dX11_readPurse_37 ?_
      refine st_iadd (pc := 38) hC dX11_readPurse_38 ?_
      refine st_istore_n (L2 := [rV 20 66, iV (w32 (12 + (w32 (8 * (σ2 68 2))))), uV, uV]) (pc := 39) hC dX11_readPurse_39 (Nat.le_of_ble_eq_true rfl) rfl ?_
      refine st_iconst (pc := 40) hC dX11_readPurse_40 (by decide) ?_
      refine st_istore_n (L2 := [rV 20 66, iV (w32 (12 + (w32 (8 * (σ2 68 2))))), iV 0, uV]) (pc := 41) hC dX11_readPurse_41 (Nat.le_of_ble_eq_true rfl) rfl ?_
      exact h
    · exact st_return (pc := 22) hC dX11_readPurse_22 h
  · refine st_aload_n (pc := 15) hC dX11_readPurse_15 rfl (by decide) (by decide) ?_
    refine st_getf (ci := 10) (f := 13) (v := iV (σ 66 13)) (pc := 16) hC dX11_readPurse_16 fl_11_96 rfl rfl ?_
    refine st_if_eq (tg := 23) (pc := 19) hC dX11_readPurse_19 (by decide) (ite_im h (fun h => ?_) (fun h => ?_))
    · refine st_aload_n (pc := 23) hC dX11_readPurse_23 rfl (by decide) (by decide) ?_
      obtain ⟨σ3, hq, h⟩ := h
      refine st_invV (As := []) (v := []) (S := []) (pc := 24) hC dX11_readPurse_24 cl_11_115 rfl rfl (Nat.le_of_ble_eq_true rfl) cr_X11_reads hq ?_
      refine st_bipush (pc := 27) hC dX11_readPurse_27 (by decide) ?_
      refine st_bipush (pc := 29) hC dX11_readPurse_29 (by decide) ?_
      refine st_aload_n (pc := 31) hC dX11_readPurse_31 rfl (by decide) (by decide) ?_
      refine st_getf (ci := 10) (f := 1) (v := rV 1000181 68) (pc := 32) hC dX11_readPurse_32 fl_11_13 rfl rfl ?_
      refine st_iconst (pc := 35) hC dX11_readPurse_35 (by decide) ?_
      refine st_iald (n := 181) (pc := 36) hC dX11_readPurse_36 (by decide) ⟨by decide, by decide⟩ ?_
      refine st_imul (pc := 37) hC dX11_readPurse_37 ?_
      refine st_iadd (pc := 38) hC dX11_readPurse_38 ?_
      refine st_istore_n (L2 := [rV 20 66, iV (w32 (12 + (w32 (8 * (σ3 68 2))))), uV, uV]) (pc := 39) hC dX11_readPurse_39 (Nat.le_of_ble_eq_true rfl) rfl ?_
      refine st_iconst (pc := 40) hC dX11_readPurse_40 (by decide) ?_
      refine st_istore_n (L2 := [rV 20 66, iV (w32 (12 + (w32 (8 * (σ3 68 2))))), iV 0, uV]) (pc := 41) hC dX11_readPurse_41 (Nat.le_of_ble_eq_true rfl) rfl ?_
      exact h
    · exact st_return (pc := 22) hC dX11_readPurse_22 h
theorem bX11_readPurse_42 {C : Nat → List Vv → Sg → Rs → Sg → Prop} {X : Nat → List Vv → List Vv → Sg → Prop} {Xr : List Vv → Sg → Prop} {Xt : Nat → Sg → Prop} (hC : Clo C 11 cX11_readPurse none X Xr Xt) {x1 x2 : Int} {σ : Sg} (h : if x2 < 8 then ((0 ≤ (w32 (x1 + x2)) ∧ (w32 (x1 + x2)) < 181) ∧ (X 42 [rV 20 66, iV x1, iV (w32 (x2 + 1)), uV] [] (upS σ 68 ((w32 (x1 + x2))).toNat 0))) else (X 63 [rV 20 66, iV x1, iV x2, uV] [] σ)) : X 42 [rV 20 66, iV x1, iV x2, uV] [] σ := by
  refine st_iload_n (pc := 42) hC dX11_readPurse_42 rfl ?_
  refine st_bipush (pc := 43) hC dX11_readPurse_43 (by decide) ?_
  refine st_icmp_ge (tg := 63) (pc := 45) hC dX11_readPurse_45 (by decide) (ite_im h (fun h => ?_) (fun h => ?_))
  · refine st_aload_n (pc := 48) hC dX11_readPurse_48 rfl (by decide) (by decide) ?_
    refine st_getf (ci := 10) (f := 1) (v := rV 1000181 68) (pc := 49) hC dX11_readPurse_49 fl_11_13 rfl rfl ?_
    refine st_iload_n (pc := 52) hC dX11_readPurse_52 rfl ?_
    refine st_iload_n (pc := 53) hC dX11_readPurse_53 rfl ?_
    refine st_iadd (pc := 54) hC dX11_readPurse_54 ?_
    refine st_iconst (pc := 55) hC dX11_readPurse_55 (by decide) ?_
    obtain ⟨hb, h⟩ := h
    refine st_iast (n := 181) (pc := 56) hC dX11_readPurse_56 (by decide) hb ?_
    refine st_iinc (L2 := [rV 20 66, iV x1, iV (w32 (x2 + 1)), uV]) (pc := 57) hC dX11_readPurse_57 rfl (Nat.le_of_ble_eq_true rfl) rfl ?_
    refine st_goto (tg := 42) (pc := 60) hC dX11_readPurse_60 (by decide) ?_
    exact h
  · exact h
theorem bX11_readPurse_63 {C : Nat → List Vv → Sg → Rs → Sg → Prop} {X : Nat → List Vv → List Vv → Sg → Prop} {Xr : List Vv → Sg → Prop} {Xt : Nat → Sg → Prop} (hC : Clo C 11 cX11_readPurse none X Xr Xt) {x1 x2 : Int} {σ : Sg} (h : ∃ v1 : Int, C MX11_isNumber [rV 20 66] σ (.inl [iV v1]) σ ∧ (if v1 = 0 then (if (σ 66 13) = 0 then (Xr [] (upS σ 68 2 (w32 ((σ 68 2) + 1)))) else (Xr [] σ)) else (∃ v2 : Int, C MX11_coinOf [rV 1000181 68, lV (σ 66 12)] σ (.inl [iV v2]) σ ∧ (if v2 = (-1) then (∃ σ3 : Sg, C MX11_blames [rV 20 66, iV 3] σ (.inl []) σ3 ∧ (∃ v4 : Int, C MX11_inPurse [rV 20 66, iV x1] σ3 (.inl [iV v4]) σ3 ∧ (if v4 = 9 then (∃ σ5 : Sg, C MX11_blames [rV 20 66, iV 4] σ3 (.inl []) σ5 ∧ (if (σ5 66 13) = 0 then (∃ σ6 : Sg, C MX11_reads [rV 20 66] σ5 (.inl []) σ6 ∧ (∃ v7 : Int, ∃ σ7 : Sg, C MX11_took [rV 20 66, rV 30 1006] σ6 (.inl [iV v7]) σ7 ∧ (if v7 = 0 then ((0 ≤ (w32 (x1 + v2)) ∧ (w32 (x1 + v2)) < 181) ∧ ((0 ≤ (w32 (x1 + v2)) ∧ (w32 (x1 + v2)) < 181) ∧ (X 63 [rV 20 66, iV x1, iV v2, uV] [] (upS σ7 68 ((w32 (x1 + v2))).toNat (w32 ((σ7 68 ((w32 (x1 + v2))).toNat) + 1)))))) else (if (σ7 66 11) = 2 then (∃ v8 : Int, C MX11_within [lV (σ7 66 12), lV 1, lV 9] σ7 (.inl [iV v8]) σ7 ∧ (if v8 = 0 then (∃ σ9 : Sg, C MX11_blames [rV 20 66, iV 3] σ7 (.inl []) σ9 ∧ (if (σ9 66 13) = 0 then (∃ σ10 : Sg, C MX11_reads [rV 20 66] σ9 (.inl []) σ10 ∧ ((0 ≤ (w32 (x1 + v2)) ∧ (w32 (x1 + v2)) < 181) ∧ ((0 ≤ (w32 (x1 + v2)) ∧ (w32 (x1 + v2)) < 181) ∧ (X 63 [rV 20 66, iV x1, iV v2, uV] [] (upS σ10 68 ((w32 (x1 + v2))).toNat (w32 ((σ10 68 ((w32 (x1 + v2))).toNat) + (σ7 66 12)))))))) else (Xr [] σ9))) else (∃ v11 : Int, C MX11_inPurse [rV 20 66, iV x1] σ7 (.inl [iV v11]) σ7 ∧ (if (9 : Int) < (w32 (v11 + (σ7 66 12))) then (∃ σ12 : Sg, C MX11_blames [rV 20 66, iV 4] σ7 (.inl []) σ12 ∧ (if (σ12 66 13) = 0 then (∃ σ13 : Sg, C MX11_reads [rV 20 66] σ12 (.inl []) σ13 ∧ ((0 ≤ (w32 (x1 + v2)) ∧ (w32 (x1 + v2)) < 181) ∧ ((0 ≤ (w32 (x1 + v2)) ∧ (w32 (x1 + v2)) < 181) ∧ (X 63 [rV 20 66, iV x1, iV v2, uV] [] (upS σ13 68 ((w32 (x1 + v2))).toNat (w32 ((σ13 68 ((w32 (x1 + v2))).toNat) + (σ7 66 12)))))))) else (Xr [] σ12))) else (if (σ7 66 13) = 0 then (∃ σ14 : Sg, C MX11_reads [rV 20 66] σ7 (.inl []) σ14 ∧ ((0 ≤ (w32 (x1 + v2)) ∧ (w32 (x1 + v2)) < 181) ∧ ((0 ≤ (w32 (x1 + v2)) ∧ (w32 (x1 + v2)) < 181) ∧ (X 63 [rV 20 66, iV x1, iV v2, uV] [] (upS σ14 68 ((w32 (x1 + v2))).toNat (w32 ((σ14 68 ((w32 (x1 + v2))).toNat) + (σ7 66 12)))))))) else (Xr [] σ7)))))) else (∃ σ15 : Sg, C MX11_blames [rV 20 66, iV 2] σ7 (.inl []) σ15 ∧ (if (σ15 66 13) = 0 then (∃ σ16 : Sg, C MX11_reads [rV 20 66] σ15 (.inl []) σ16 ∧ ((0 ≤ (w32 (x1 + v2)) ∧ (w32 (x1 + v2)) < 181) ∧ ((0 ≤ (w32 (x1 + v2)) ∧ (w32 (x1 + v2)) < 181) ∧ (X 63 [rV 20 66, iV x1, iV v2, uV] [] (upS σ16 68 ((w32 (x1 + v2))).toNat (w32 ((σ16 68 ((w32 (x1 + v2))).toNat) + (σ7 66 12)))))))) else (Xr [] σ15))))))) else (Xr [] σ5))) else (if (σ3 66 13) = 0 then (∃ σ17 : Sg, C MX11_reads [rV 20 66] σ3 (.inl []) σ17 ∧ (∃ v18 : Int, ∃ σ18 : Sg, C MX11_took [rV 20 66, rV 30 1006] σ17 (.inl [iV v18]) σ18 ∧ (if v18 = 0 then ((0 ≤ (w32 (x1 + v2)) ∧ (w32 (x1 + v2)) < 181) ∧ ((0 ≤ (w32 (x1 + v2)) ∧ (w32 (x1 + v2)) < 181) ∧ (X 63 [rV 20 66, iV x1, iV v2, uV] [] (upS σ18 68 ((w32 (x1 + v2))).toNat (w32 ((σ18 68 ((w32 (x1 + v2))).toNat) + 1)))))) else (if (σ18 66 11) = 2 then (∃ v19 : Int, C MX11_within [lV (σ18 66 12), lV 1, lV 9] σ18 (.inl [iV v19]) σ18 ∧ (if v19 = 0 then (∃ σ20 : Sg, C MX11_blames [rV 20 66, iV 3] σ18 (.inl []) σ20 ∧ (if (σ20 66 13) = 0 then (∃ σ21 : Sg, C MX11_reads [rV 20 66] σ20 (.inl []) σ21 ∧ ((0 ≤ (w32 (x1 + v2)) ∧ (w32 (x1 + v2)) < 181) ∧ ((0 ≤ (w32 (x1 + v2)) ∧ (w32 (x1 + v2)) < 181) ∧ (X 63 [rV 20 66, iV x1, iV v2, uV] [] (upS σ21 68 ((w32 (x1 + v2))).toNat (w32 ((σ21 68 ((w32 (x1 + v2))).toNat) + (σ18 66 12)))))))) else (Xr [] σ20))) else (∃ v22 : Int, C MX11_inPurse [rV 20 66, iV x1] σ18 (.inl [iV v22]) σ18 ∧ (if (9 : Int) < (w32 (v22 + (σ18 66 12))) then (∃ σ23 : Sg, C MX11_blames [rV 20 66, iV 4] σ18 (.inl []) σ23 ∧ (if (σ23 66 13) = 0 then (∃ σ24 : Sg, C MX11_reads [rV 20 66] σ23 (.inl []) σ24 ∧ ((0 ≤ (w32 (x1 + v2)) ∧ (w32 (x1 + v2)) < 181) ∧ ((0 ≤ (w32 (x1 + v2)) ∧ (w32 (x1 + v2)) < 181) ∧ (X 63 [rV 20 66, iV x1, iV v2, uV] [] (upS σ24 68 ((w32 (x1 + v2))).toNat (w32 ((σ24 68 ((w32 (x1 + v2))).toNat) + (σ18 66 12)))))))) else (Xr [] σ23))) else (if (σ18 66 13) = 0 then (∃ σ25 : Sg, C MX11_reads [rV 20 66] σ18 (.inl []) σ25 ∧ ((0 ≤ (w32 (x1 + v2)) ∧ (w32 (x1 + v2)) < 181) ∧ ((0 ≤ (w32 (x1 + v2)) ∧ (w32 (x1 + v2)) < 181) ∧ (X 63 [rV 20 66, iV x1, iV v2, uV] [] (upS σ25 68 ((w32 (x1 + v2))).toNat (w32 ((σ25 68 ((w32 (x1 + v2))).toNat) + (σ18 66 12)))))))) else (Xr [] σ18)))))) else (∃ σ26 : Sg, C MX11_blames [rV 20 66, iV 2] σ18 (.inl []) σ26 ∧ (if (σ26 66 13) = 0 then (∃ σ27 : Sg, C MX11_reads [rV 20 66] σ26 (.inl []) σ27 ∧ ((0 ≤ (w32 (x1 + v2)) ∧ (w32 (x1 + v2)) < 181) ∧ ((0 ≤ (w32 (x1 + v2)) ∧ (w32 (x1 + v2)) < 181) ∧ (X 63 [rV 20 66, iV x1, iV v2, uV] [] (upS σ27 68 ((w32 (x1 + v2))).toNat (w32 ((σ27 68 ((w32 (x1 + v2))).toNat) + (σ18 66 12)))))))) else (Xr [] σ26))))))) else (Xr [] σ3))))) else (∃ v28 : Int, C MX11_inPurse [rV 20 66, iV x1] σ (.inl [iV v28]) σ ∧ (if v28 = 9 then (∃ σ29 : Sg, C MX11_blames [rV 20 66, iV 4] σ (.inl []) σ29 ∧ (if (σ29 66 13) = 0 then (∃ σ30 : Sg, C MX11_reads [rV 20 66] σ29 (.inl []) σ30 ∧ (∃ v31 : Int, ∃ σ31 : Sg, C MX11_took [rV 20 66, rV 30 1006] σ30 (.inl [iV v31]) σ31 ∧ (if v31 = 0 then ((0 ≤ (w32 (x1 + v2)) ∧ (w32 (x1 + v2)) < 181) ∧ ((0 ≤ (w32 (x1 + v2)) ∧ (w32 (x1 + v2)) < 181) ∧ (X 63 [rV 20 66, iV x1, iV v2, uV] [] (upS σ31 68 ((w32 (x1 + v2))).toNat (w32 ((σ31 68 ((w32 (x1 + v2))).toNat) + 1)))))) else (if (σ31 66 11) = 2 then (∃ v32 : Int, C MX11_within [lV (σ31 66 12), lV 1, lV 9] σ31 (.inl [iV v32]) σ31 ∧ (if v32 = 0 then (∃ σ33 : Sg, C MX11_blames [rV 20 66, iV 3] σ31 (.inl []) σ33 ∧ (if (σ33 66 13) = 0 then (∃ σ34 : Sg, C MX11_reads [rV 20 66] σ33 (.inl []) σ34 ∧ ((0 ≤ (w32 (x1 + v2)) ∧ (w32 (x1 + v2)) < 181) ∧ ((0 ≤ (w32 (x1 + v2)) ∧ (w32 (x1 + v2)) < 181) ∧ (X 63 [rV 20 66, iV x1, iV v2, uV] [] (upS σ34 68 ((w32 (x1 + v2))).toNat (w32 ((σ34 68 ((w32 (x1 + v2))).toNat) + (σ31 66 12)))))))) else (Xr [] σ33))) else (∃ v35 : Int, C MX11_inPurse [rV 20 66, iV x1] σ31 (.inl [iV v35]) σ31 ∧ (if (9 : Int) < (w32 (v35 + (σ31 66 12))) then (∃ σ36 : Sg, C MX11_blames [rV 20 66, iV 4] σ31 (.inl []) σ36 ∧ (if (σ36 66 13) = 0 then (∃ σ37 : Sg, C MX11_reads [rV 20 66] σ36 (.inl []) σ37 ∧ ((0 ≤ (w32 (x1 + v2)) ∧ (w32 (x1 + v2)) < 181) ∧ ((0 ≤ (w32 (x1 + v2)) ∧ (w32 (x1 + v2)) < 181) ∧ (X 63 [rV 20 66, iV x1, iV v2, uV] [] (upS σ37 68 ((w32 (x1 + v2))).toNat (w32 ((σ37 68 ((w32 (x1 + v2))).toNat) + (σ31 66 12)))))))) else (Xr [] σ36))) else (if (σ31 66 13) = 0 then (∃ σ38 : Sg, C MX11_reads [rV 20 66] σ31 (.inl []) σ38 ∧ ((0 ≤ (w32 (x1 + v2)) ∧ (w32 (x1 + v2)) < 181) ∧ ((0 ≤ (w32 (x1 + v2)) ∧ (w32 (x1 + v2)) < 181) ∧ (X 63 [rV 20 66, iV x1, iV v2, uV] [] (upS σ38 68 ((w32 (x1 + v2))).toNat (w32 ((σ38 68 ((w32 (x1 + v2))).toNat) + (σ31 66 12)))))))) else (Xr [] σ31)))))) else (∃ σ39 : Sg, C MX11_blames [rV 20 66, iV 2] σ31 (.inl []) σ39 ∧ (if (σ39 66 13) = 0 then (∃ σ40 : Sg, C MX11_reads [rV 20 66] σ39 (.inl []) σ40 ∧ ((0 ≤ (w32 (x1 + v2)) ∧ (w32 (x1 + v2)) < 181) ∧ ((0 ≤ (w32 (x1 + v2)) ∧ (w32 (x1 + v2)) < 181) ∧ (X 63 [rV 20 66, iV x1, iV v2, uV] [] (upS σ40 68 ((w32 (x1 + v2))).toNat (w32 ((σ40 68 ((w32 (x1 + v2))).toNat) + (σ31 66 12)))))))) else (Xr [] σ39))))))) else (Xr [] σ29))) else (if (σ 66 13) = 0 then (∃ σ41 : Sg, C MX11_reads [rV 20 66] σ (.inl []) σ41 ∧ (∃ v42 : Int, ∃ σ42 : Sg, C MX11_took [rV 20 66, rV 30 1006] σ41 (.inl [iV v42]) σ42 ∧ (if v42 = 0 then ((0 ≤ (w32 (x1 + v2)) ∧ (w32 (x1 + v2)) < 181) ∧ ((0 ≤ (w32 (x1 + v2)) ∧ (w32 (x1 + v2)) < 181) ∧ (X 63 [rV 20 66, iV x1, iV v2, uV] [] (upS σ42 68 ((w32 (x1 + v2))).toNat (w32 ((σ42 68 ((w32 (x1 + v2))).toNat) + 1)))))) else (if (σ42 66 11) = 2 then (∃ v43 : Int, C MX11_within [lV (σ42 66 12), lV 1, lV 9] σ42 (.inl [iV v43]) σ42 ∧ (if v43 = 0 then (∃ σ44 : Sg, C MX11_blames [rV 20 66, iV 3] σ42 (.inl []) σ44 ∧ (if (σ44 66 13) = 0 then (∃ σ45 : Sg, C MX11_reads [rV 20 66] σ44 (.inl []) σ45 ∧ ((0 ≤ (w32 (x1 + v2)) ∧ (w32 (x1 + v2)) < 181) ∧ ((0 ≤ (w32 (x1 + v2)) ∧ (w32 (x1 + v2)) < 181) ∧ (X 63 [rV 20 66, iV x1, iV v2, uV] [] (upS σ45 68 ((w32 (x1 + v2))).toNat (w32 ((σ45 68 ((w32 (x1 + v2))).toNat) + (σ42 66 12)))))))) else (Xr [] σ44))) else (∃ v46 : Int, C MX11_inPurse [rV 20 66, iV x1] σ42 (.inl [iV v46]) σ42 ∧ (if (9 : Int) < (w32 (v46 + (σ42 66 12))) then (∃ σ47 : Sg, C MX11_blames [rV 20 66, iV 4] σ42 (.inl []) σ47 ∧ (if (σ47 66 13) = 0 then (∃ σ48 : Sg, C MX11_reads [rV 20 66] σ47 (.inl []) σ48 ∧ ((0 ≤ (w32 (x1 + v2)) ∧ (w32 (x1 + v2)) < 181) ∧ ((0 ≤ (w32 (x1 + v2)) ∧ (w32 (x1 + v2)) < 181) ∧ (X 63 [rV 20 66, iV x1, iV v2, uV] [] (upS σ48 68 ((w32 (x1 + v2))).toNat (w32 ((σ48 68 ((w32 (x1 + v2))).toNat) + (σ42 66 12)))))))) else (Xr [] σ47))) else (if (σ42 66 13) = 0 then (∃ σ49 : Sg, C MX11_reads [rV 20 66] σ42 (.inl []) σ49 ∧ ((0 ≤ (w32 (x1 + v2)) ∧ (w32 (x1 + v2)) < 181) ∧ ((0 ≤ (w32 (x1 + v2)) ∧ (w32 (x1 + v2)) < 181) ∧ (X 63 [rV 20 66, iV x1, iV v2, uV] [] (upS σ49 68 ((w32 (x1 + v2))).toNat (w32 ((σ49 68 ((w32 (x1 + v2))).toNat) + (σ42 66 12)))))))) else (Xr [] σ42)))))) else (∃ σ50 : Sg, C MX11_blames [rV 20 66, iV 2] σ42 (.inl []) σ50 ∧ (if (σ50 66 13) = 0 then (∃ σ51 : Sg, C MX11_reads [rV 20 66] σ50 (.inl []) σ51 ∧ ((0 ≤ (w32 (x1 + v2)) ∧ (w32 (x1 + v2)) < 181) ∧ ((0 ≤ (w32 (x1 + v2)) ∧ (w32 (x1 + v2)) < 181) ∧ (X 63 [rV 20 66, iV x1, iV v2, uV] [] (upS σ51 68 ((w32 (x1 + v2))).toNat (w32 ((σ51 68 ((w32 (x1 + v2))).toNat) + (σ42 66 12)))))))) else (Xr [] σ50))))))) else (Xr [] σ)))))))) : X 63 [rV 20 66, iV x1, iV x2, uV] [] σ := by
  refine st_aload_n (pc := 63) hC dX11_readPurse_63 rfl (by decide) (by decide) ?_
  obtain ⟨v1, hq, h⟩ := h
  refine st_invV (As := []) (v := [iV v1]) (S := []) (pc := 64) hC dX11_readPurse_64 cl_11_125 rfl rfl (Nat.le_of_ble_eq_true rfl) cr_X11_isNumber hq ?_
  refine st_if_eq (tg := 222) (pc := 67) hC dX11_readPurse_67 (by decide) (ite_im h (fun h => ?_) (fun h => ?_))
  · refine st_aload_n (pc := 222) hC dX11_readPurse_222 rfl (by decide) (by decide) ?_
    refine st_getf (ci := 10) (f := 13) (v := iV (σ 66 13)) (pc := 223) hC dX11_readPurse_223 fl_11_96 rfl rfl ?_
    refine st_if_ne (tg := 239) (pc := 226) hC dX11_readPurse_226 (by decide) (ite_im h (fun h => ?_) (fun h => ?_))
    · refine st_aload_n (pc := 229) hC dX11_readPurse_229 rfl (by decide) (by decide) ?_
      refine st_getf (ci := 10) (f := 1) (v := rV 1000181 68) (pc := 230) hC dX11_readPurse_230 fl_11_13 rfl rfl ?_
      refine st_iconst (pc := 233) hC dX11_readPurse_233 (by decide) ?_
      refine st_dup2IR (pc := 234) hC dX11_readPurse_234 (by decide) (by decide) ?_
      refine st_iald (n := 181) (pc := 235) hC dX11_readPurse_235 (by decide) ⟨by decide, by decide⟩ ?_
      refine st_iconst (pc := 236) hC dX11_readPurse_236 (by decide) ?_
      refine st_iadd (pc := 237) hC dX11_readPurse_237 ?_
      refine st_iast (n := 181) (pc := 238) hC dX11_readPurse_238 (by decide) ⟨by decide, by decide⟩ ?_
      exact st_return (pc := 239) hC dX11_readPurse_239 h
    · exact st_return (pc := 239) hC dX11_readPurse_239 h
  · refine st_aload_n (pc := 70) hC dX11_readPurse_70 rfl (by decide) (by decide) ?_
    refine st_getf (ci := 10) (f := 1) (v := rV 1000181 68) (pc := 71) hC dX11_readPurse_71 fl_11_13 rfl rfl ?_
    refine st_aload_n (pc := 74) hC dX11_readPurse_74 rfl (by decide) (by decide) ?_
    refine st_getf (ci := 10) (f := 12) (v := iV (σ 66 12)) (pc := 75) hC dX11_readPurse_75 fl_11_93 rfl rfl ?_
    refine st_i2l (pc := 78) hC dX11_readPurse_78 ?_
    obtain ⟨v2, hq, h⟩ := h
    refine st_invS (As := [rV 1000181 68, lV (σ 66 12)]) (v := [iV v2]) (S := []) (pc := 79) hC dX11_readPurse_79 cl_11_140 rfl rfl (Nat.le_of_ble_eq_true rfl) hq ?_
    refine st_istore_n (L2 := [rV 20 66, iV x1, iV v2, uV]) (pc := 82) hC dX11_readPurse_82 (Nat.le_of_ble_eq_true rfl) rfl ?_
    refine st_iload_n (pc := 83) hC dX11_readPurse_83 rfl ?_
    refine st_iconst (pc := 84) hC dX11_readPurse_84 (by decide) ?_
    refine st_icmp_ne (tg := 93) (pc := 85) hC dX11_readPurse_85 (by decide) (ite_im h (fun h => ?_) (fun h => ?_))
    · refine st_aload_n (pc := 88) hC dX11_readPurse_88 rfl (by decide) (by decide) ?_
      refine st_iconst (pc := 89) hC dX11_readPurse_89 (by decide) ?_
      obtain ⟨σ3, hq, h⟩ := h
      refine st_invV (As := [iV 3]) (v := []) (S := []) (pc := 90) hC dX11_readPurse_90 cl_11_121 rfl rfl (Nat.le_of_ble_eq_true rfl) cr_X11_blames hq ?_
      refine st_aload_n (pc := 93) hC dX11_readPurse_93 rfl (by decide) (by decide) ?_
      refine st_iload_n (pc := 94) hC dX11_readPurse_94 rfl ?_
      obtain ⟨v4, hq, h⟩ := h
      refine st_invV (As := [iV x1]) (v := [iV v4]) (S := []) (pc := 95) hC dX11_readPurse_95 cl_11_153 rfl rfl (Nat.le_of_ble_eq_true rfl) cr_X11_inPurse hq ?_
      refine st_bipush (pc := 98) hC dX11_readPurse_98 (by decide) ?_
      refine st_icmp_ne (tg := 108) (pc := 100) hC dX11_readPurse_100 (by decide) (ite_im h (fun h => ?_) (fun h => ?_))
      · refine st_aload_n (pc := 103) hC dX11_readPurse_103 rfl (by decide) (by decide) ?_
        refine st_iconst (pc := 104) hC dX11_readPurse_104 (by decide) ?_
        obtain ⟨σ5, hq, h⟩ := h
        refine st_invV (As := [iV 4]) (v := []) (S := []) (pc := 105) hC dX11_readPurse_105 cl_11_121 rfl rfl (Nat.le_of_ble_eq_true rfl) cr_X11_blames hq ?_
        refine st_aload_n (pc := 108) hC dX11_readPurse_108 rfl (by decide) (by decide) ?_
        refine st_getf (ci := 10) (f := 13) (v := iV (σ5 66 13)) (pc := 109) hC dX11_readPurse_109 fl_11_96 rfl rfl ?_
        refine st_if_eq (tg := 116) (pc := 112) hC dX11_readPurse_112 (by decide) (ite_im h (fun h => ?_) (fun h => ?_))
        · refine st_aload_n (pc := 116) hC dX11_readPurse_116 rfl (by decide) (by decide) ?_
          obtain ⟨σ6, hq, h⟩ := h
          refine st_invV (As := []) (v := []) (S := []) (pc := 117) hC dX11_readPurse_117 cl_11_115 rfl rfl (Nat.le_of_ble_eq_true rfl) cr_X11_reads hq ?_
          refine st_iconst (pc := 120) hC dX11_readPurse_120 (by decide) ?_
          refine st_istore_n (L2 := [rV 20 66, iV x1, iV v2, iV 1]) (pc := 121) hC dX11_readPurse_121 (Nat.le_of_ble_eq_true rfl) rfl ?_
          refine st_aload_n (pc := 122) hC dX11_readPurse_122 rfl (by decide) (by decide) ?_
          refine st_ldcS (j := 6) (pc := 123) hC dX11_readPurse_123 rfl ?_
          obtain ⟨v7, σ7, hq, h⟩ := h
          refine st_invV (As := [rV 30 1006]) (v := [iV v7]) (S := []) (pc := 125) hC dX11_readPurse_125 cl_11_118 rfl rfl (Nat.le_of_ble_eq_true rfl) cr_X11_took hq ?_
          refine st_if_eq (tg := 207) (pc := 128) hC dX11_readPurse_128 (by decide) (ite_im h (fun h => ?_) (fun h => ?_))
          · refine st_aload_n (pc := 207) hC dX11_readPurse_207 rfl (by decide) (by decide) ?_
            refine st_getf (ci := 10) (f := 1) (v := rV 1000181 68) (pc := 208) hC dX11_readPurse_208 fl_11_13 rfl rfl ?_
            refine st_iload_n (pc := 211) hC dX11_readPurse_211 rfl ?_
            refine st_iload_n (pc := 212) hC dX11_readPurse_212 rfl ?_
            refine st_iadd (pc := 213) hC dX11_readPurse_213 ?_
            refine st_dup2IR (pc := 214) hC dX11_readPurse_214 (by decide) (by decide) ?_
            obtain ⟨hb, h⟩ := h
            refine st_iald (n := 181) (pc := 215) hC dX11_readPurse_215 (by decide) hb ?_
            refine st_iload_n (pc := 216) hC dX11_readPurse_216 rfl ?_
            refine st_iadd (pc := 217) hC dX11_readPurse_217 ?_
            obtain ⟨hb, h⟩ := h
            refine st_iast (n := 181) (pc := 218) hC dX11_readPurse_218 (by decide) hb ?_
            refine st_goto (tg := 63) (pc := 219) hC dX11_readPurse_219 (by decide) ?_
            exact st_fg (L2 := [rV 20 66, iV x1, iV v2, uV]) hC ⟨Or.inl rfl, Or.inl rfl, Or.inl rfl, Or.inr rfl, trivial⟩ h
          · refine st_aload_n (pc := 131) hC dX11_readPurse_131 rfl (by decide) (by decide) ?_
            refine st_getf (ci := 10) (f := 12) (v := iV (σ7 66 12)) (pc := 132) hC dX11_readPurse_132 fl_11_93 rfl rfl ?_
            refine st_istore_n (L2 := [rV 20 66, iV x1, iV v2, iV (σ7 66 12)]) (pc := 135) hC dX11_readPurse_135 (Nat.le_of_ble_eq_true rfl) rfl ?_
            refine st_aload_n (pc := 136) hC dX11_readPurse_136 rfl (by decide) (by decide) ?_
            refine st_getf (ci := 10) (f := 11) (v := iV (σ7 66 11)) (pc := 137) hC dX11_readPurse_137 fl_11_79 rfl rfl ?_
            refine st_iconst (pc := 140) hC dX11_readPurse_140 (by decide) ?_
            refine st_icmp_eq (tg := 152) (pc := 141) hC dX11_readPurse_141 (by decide) (ite_im h (fun h => ?_) (fun h => ?_))
            · refine st_aload_n (pc := 152) hC dX11_readPurse_152 rfl (by decide) (by decide) ?_
              refine st_getf (ci := 10) (f := 12) (v := iV (σ7 66 12)) (pc := 153) hC dX11_readPurse_153 fl_11_93 rfl rfl ?_
              refine st_i2l (pc := 156) hC dX11_readPurse_156 ?_
              refine st_lconst1 (pc := 157) hC dX11_readPurse_157 ?_
              refine st_ldc2 (pc := 158) hC dX11_readPurse_158 rfl ?_
              obtain ⟨v8, hq, h⟩ := h
              refine st_invS (As := [lV (σ7 66 12), lV 1, lV 9]) (v := [iV v8]) (S := []) (pc := 161) hC dX11_readPurse_161 cl_11_133 rfl rfl (Nat.le_of_ble_eq_true rfl) hq ?_
              refine st_if_ne (tg := 175) (pc := 164) hC dX11_readPurse_164 (by decide) (ite_im h (fun h => ?_) (fun h => ?_))
              · refine st_aload_n (pc := 167) hC dX11_readPurse_167 rfl (by decide) (by decide) ?_
                refine st_iconst (pc := 168) hC dX11_readPurse_168 (by decide) ?_
                obtain ⟨σ9, hq, h⟩ := h
                refine st_invV (As := [iV 3]) (v := []) (S := []) (pc := 169) hC dX11_readPurse_169 cl_11_121 rfl rfl (Nat.le_of_ble_eq_true rfl) cr_X11_blames hq ?_
                refine st_goto (tg := 195) (pc := 172) hC dX11_readPurse_172 (by decide) ?_
                refine st_aload_n (pc := 195) hC dX11_readPurse_195 rfl (by decide) (by decide) ?_
                refine st_getf (ci := 10) (f := 13) (v := iV (σ9 66 13)) (pc := 196) hC dX11_readPurse_196 fl_11_96 rfl rfl ?_
                refine st_if_eq (tg := 203) (pc := 199) hC dX11_readPurse_199 (by decide) (ite_im h (fun h => ?_) (fun h => ?_))
                · refine st_aload_n (pc := 203) hC dX11_readPurse_203 rfl (by decide) (by decide) ?_
                  obtain ⟨σ10, hq, h⟩ := h
                  refine st_invV (As := []) (v := []) (S := []) (pc := 204) hC dX11_readPurse_204 cl_11_115 rfl rfl (Nat.le_of_ble_eq_true rfl) cr_X11_reads hq ?_
                  refine st_aload_n (pc := 207) hC dX11_readPurse_207 rfl (by decide) (by decide) ?_
                  refine st_getf (ci := 10) (f := 1) (v := rV 1000181 68) (pc := 208) hC dX11_readPurse_208 fl_11_13 rfl rfl ?_
                  refine st_iload_n (pc := 211) hC dX11_readPurse_211 rfl ?_
                  refine st_iload_n (pc := 212) hC dX11_readPurse_212 rfl ?_
                  refine st_iadd (pc := 213) hC dX11_readPurse_213 ?_
                  refine st_dup2IR (pc := 214) hC dX11_readPurse_214 (by decide) (by decide) ?_
                  obtain ⟨hb, h⟩ := h
                  refine st_iald (n := 181) (pc := 215) hC dX11_readPurse_215 (by decide) hb ?_
                  refine st_iload_n (pc := 216) hC dX11_readPurse_216 rfl ?_
                  refine st_iadd (pc := 217) hC dX11_readPurse_217 ?_
                  obtain ⟨hb, h⟩ := h
                  refine st_iast (n := 181) (pc := 218) hC dX11_readPurse_218 (by decide) hb ?_
                  refine st_goto (tg := 63) (pc := 219) hC dX11_readPurse_219 (by decide) ?_
                  exact st_fg (L2 := [rV 20 66, iV x1, iV v2, uV]) hC ⟨Or.inl rfl, Or.inl rfl, Or.inl rfl, Or.inr rfl, trivial⟩ h
                · exact st_return (pc := 202) hC dX11_readPurse_202 h
              · refine st_aload_n (pc := 175) hC dX11_readPurse_175 rfl (by decide) (by decide) ?_
                refine st_iload_n (pc := 176) hC dX11_readPurse_176 rfl ?_
                obtain ⟨v11, hq, h⟩ := h
                refine st_invV (As := [iV x1]) (v := [iV v11]) (S := []) (pc := 177) hC dX11_readPurse_177 cl_11_153 rfl rfl (Nat.le_of_ble_eq_true rfl) cr_X11_inPurse hq ?_
                refine st_aload_n (pc := 180) hC dX11_readPurse_180 rfl (by decide) (by decide) ?_
                refine st_getf (ci := 10) (f := 12) (v := iV (σ7 66 12)) (pc := 181) hC dX11_readPurse_181 fl_11_93 rfl rfl ?_
                refine st_iadd (pc := 184) hC dX11_readPurse_184 ?_
                refine st_bipush (pc := 185) hC dX11_readPurse_185 (by decide) ?_
                refine st_icmp_le (tg := 195) (pc := 187) hC dX11_readPurse_187 (by decide) (ite_im h (fun h => ?_) (fun h => ?_))
                · refine st_aload_n (pc := 190) hC dX11_readPurse_190 rfl (by decide) (by decide) ?_
                  refine st_iconst (pc := 191) hC dX11_readPurse_191 (by decide) ?_
                  obtain ⟨σ12, hq, h⟩ := h
                  refine st_invV (As := [iV 4]) (v := []) (S := []) (pc := 192) hC dX11_readPurse_192 cl_11_121 rfl rfl (Nat.le_of_ble_eq_true rfl) cr_X11_blames hq ?_
                  refine st_aload_n (pc := 195) hC dX11_readPurse_195 rfl (by decide) (by decide) ?_
                  refine st_getf (ci := 10) (f := 13) (v := iV (σ12 66 13)) (pc := 196) hC dX11_readPurse_196 fl_11_96 rfl rfl ?_
                  refine st_if_eq (tg := 203) (pc := 199) hC dX11_readPurse_199 (by decide) (ite_im h (fun h => ?_) (fun h => ?_))
                  · refine st_aload_n (pc := 203) hC dX11_readPurse_203 rfl (by decide) (by decide) ?_
                    obtain ⟨σ13, hq, h⟩ := h
                    refine st_invV (As := []) (v := []) (S := []) (pc := 204) hC dX11_readPurse_204 cl_11_115 rfl rfl (Nat.le_of_ble_eq_true rfl) cr_X11_reads hq ?_
                    refine st_aload_n (pc := 207) hC dX11_readPurse_207 rfl (by decide) (by decide) ?_
                    refine st_getf (ci := 10) (f := 1) (v := rV 1000181 68) (pc := 208) hC dX11_readPurse_208 fl_11_13 rfl rfl ?_
                    refine st_iload_n (pc := 211) hC dX11_readPurse_211 rfl ?_
                    refine st_iload_n (pc := 212) hC dX11_readPurse_212 rfl ?_
                    refine st_iadd (pc := 213) hC dX11_readPurse_213 ?_
                    refine st_dup2IR (pc := 214) hC dX11_readPurse_214 (by decide) (by decide) ?_
                    obtain ⟨hb, h⟩ := h
                    refine st_iald (n := 181) (pc := 215) hC dX11_readPurse_215 (by decide) hb ?_
                    refine st_iload_n (pc := 216) hC dX11_readPurse_216 rfl ?_
                    refine st_iadd (pc := 217) hC dX11_readPurse_217 ?_
                    obtain ⟨hb, h⟩ := h
                    refine st_iast (n := 181) (pc := 218) hC dX11_readPurse_218 (by decide) hb ?_
                    refine st_goto (tg := 63) (pc := 219) hC dX11_readPurse_219 (by decide) ?_
                    exact st_fg (L2 := [rV 20 66, iV x1, iV v2, uV]) hC ⟨Or.inl rfl, Or.inl rfl, Or.inl rfl, Or.inr rfl, trivial⟩ h
                  · exact st_return (pc := 202) hC dX11_readPurse_202 h
                · refine st_aload_n (pc := 195) hC dX11_readPurse_195 rfl (by decide) (by decide) ?_
                  refine st_getf (ci := 10) (f := 13) (v := iV (σ7 66 13)) (pc := 196) hC dX11_readPurse_196 fl_11_96 rfl rfl ?_
                  refine st_if_eq (tg := 203) (pc := 199) hC dX11_readPurse_199 (by decide) (ite_im h (fun h => ?_) (fun h => ?_))
                  · refine st_aload_n (pc := 203) hC dX11_readPurse_203 rfl (by decide) (by decide) ?_
                    obtain ⟨σ14, hq, h⟩ := h
                    refine st_invV (As := []) (v := []) (S := []) (pc := 204) hC dX11_readPurse_204 cl_11_115 rfl rfl (Nat.le_of_ble_eq_true rfl) cr_X11_reads hq ?_
                    refine st_aload_n (pc := 207) hC dX11_readPurse_207 rfl (by decide) (by decide) ?_
                    refine st_getf (ci := 10) (f := 1) (v := rV 1000181 68) (pc := 208) hC dX11_readPurse_208 fl_11_13 rfl rfl ?_
                    refine st_iload_n (pc := 211) hC dX11_readPurse_211 rfl ?_
                    refine st_iload_n (pc := 212) hC dX11_readPurse_212 rfl ?_
                    refine st_iadd (pc := 213) hC dX11_readPurse_213 ?_
                    refine st_dup2IR (pc := 214) hC dX11_readPurse_214 (by decide) (by decide) ?_
                    obtain ⟨hb, h⟩ := h
                    refine st_iald (n := 181) (pc := 215) hC dX11_readPurse_215 (by decide) hb ?_
                    refine st_iload_n (pc := 216) hC dX11_readPurse_216 rfl ?_
                    refine st_iadd (pc := 217) hC dX11_readPurse_217 ?_
                    obtain ⟨hb, h⟩ := h
                    refine st_iast (n := 181) (pc := 218) hC dX11_readPurse_218 (by decide) hb ?_
                    refine st_goto (tg := 63) (pc := 219) hC dX11_readPurse_219 (by decide) ?_
                    exact st_fg (L2 := [rV 20 66, iV x1, iV v2, uV]) hC ⟨Or.inl rfl, Or.inl rfl, Or.inl rfl, Or.inr rfl, trivial⟩ h
                  · exact st_return (pc := 202) hC dX11_readPurse_202 h
            · refine st_aload_n (pc := 144) hC dX11_readPurse_144 rfl (by decide) (by decide) ?_
              refine st_iconst (pc := 145) hC dX11_readPurse_145 (by decide) ?_
              obtain ⟨σ15, hq, h⟩ := h
              refine st_invV (As := [iV 2]) (v := []) (S := []) (pc := 146) hC dX11_readPurse_146 cl_11_121 rfl rfl (Nat.le_of_ble_eq_true rfl) cr_X11_blames hq ?_
              refine st_goto (tg := 195) (pc := 149) hC dX11_readPurse_149 (by decide) ?_
              refine st_aload_n (pc := 195) hC dX11_readPurse_195 rfl (by decide) (by decide) ?_
              refine st_getf (ci := 10) (f := 13) (v := iV (σ15 66 13)) (pc := 196) hC dX11_readPurse_196 fl_11_96 rfl rfl ?_
              refine st_if_eq (tg := 203) (pc := 199) hC dX11_readPurse_199 (by decide) (ite_im h (fun h => ?_) (fun h => ?_))
              · refine st_aload_n (pc := 203) hC dX11_readPurse_203 rfl (by decide) (by decide) ?_
                obtain ⟨σ16, hq, h⟩ := h
                refine st_invV (As := []) (v := []) (S := []) (pc := 204) hC dX11_readPurse_204 cl_11_115 rfl rfl (Nat.le_of_ble_eq_true rfl) cr_X11_reads hq ?_
                refine st_aload_n (pc := 207) hC dX11_readPurse_207 rfl (by decide) (by decide) ?_
                refine st_getf (ci := 10) (f := 1) (v := rV 1000181 68) (pc := 208) hC dX11_readPurse_208 fl_11_13 rfl rfl ?_
                refine st_iload_n (pc := 211) hC dX11_readPurse_211 rfl ?_
                refine st_iload_n (pc := 212) hC dX11_readPurse_212 rfl ?_
                refine st_iadd (pc := 213) hC dX11_readPurse_213 ?_
                refine st_dup2IR (pc := 214) hC dX11_readPurse_214 (by decide) (by decide) ?_
                obtain ⟨hb, h⟩ := h
                refine st_iald (n := 181) (pc := 215) hC dX11_readPurse_215 (by decide) hb ?_
                refine st_iload_n (pc := 216) hC dX11_readPurse_216 rfl ?_
                refine st_iadd (pc := 217) hC dX11_readPurse_217 ?_
                obtain ⟨hb, h⟩ := h
                refine st_iast (n := 181) (pc := 218) hC dX11_readPurse_218 (by decide) hb ?_
                refine st_goto (tg := 63) (pc := 219) hC dX11_readPurse_219 (by decide) ?_
                exact st_fg (L2 := [rV 20 66, iV x1, iV v2, uV]) hC ⟨Or.inl rfl, Or.inl rfl, Or.inl rfl, Or.inr rfl, trivial⟩ h
              · exact st_return (pc := 202) hC dX11_readPurse_202 h
        · exact st_return (pc := 115) hC dX11_readPurse_115 h
      · refine st_aload_n (pc := 108) hC dX11_readPurse_108 rfl (by decide) (by decide) ?_
        refine st_getf (ci := 10) (f := 13) (v := iV (σ3 66 13)) (pc := 109) hC dX11_readPurse_109 fl_11_96 rfl rfl ?_
        refine st_if_eq (tg := 116) (pc := 112) hC dX11_readPurse_112 (by decide) (ite_im h (fun h => ?_) (fun h => ?_))
        · refine st_aload_n (pc := 116) hC dX11_readPurse_116 rfl (by decide) (by decide) ?_
          obtain ⟨σ17, hq, h⟩ := h
          refine st_invV (As := []) (v := []) (S := []) (pc := 117) hC dX11_readPurse_117 cl_11_115 rfl rfl (Nat.le_of_ble_eq_true rfl) cr_X11_reads hq ?_
          refine st_iconst (pc := 120) hC dX11_readPurse_120 (by decide) ?_
          refine st_istore_n (L2 := [rV 20 66, iV x1, iV v2, iV 1]) (pc := 121) hC dX11_readPurse_121 (Nat.le_of_ble_eq_true rfl) rfl ?_
          refine st_aload_n (pc := 122) hC dX11_readPurse_122 rfl (by decide) (by decide) ?_
          refine st_ldcS (j := 6) (pc := 123) hC dX11_readPurse_123 rfl ?_
          obtain ⟨v18, σ18, hq, h⟩ := h
          refine st_invV (As := [rV 30 1006]) (v := [iV v18]) (S := []) (pc := 125) hC dX11_readPurse_125 cl_11_118 rfl rfl (Nat.le_of_ble_eq_true rfl) cr_X11_took hq ?_
          refine st_if_eq (tg := 207) (pc := 128) hC dX11_readPurse_128 (by decide) (ite_im h (fun h => ?_) (fun h => ?_))
          · refine st_aload_n (pc := 207) hC dX11_readPurse_207 rfl (by decide) (by decide) ?_
            refine st_getf (ci := 10) (f := 1) (v := rV 1000181 68) (pc := 208) hC dX11_readPurse_208 fl_11_13 rfl rfl ?_
            refine st_iload_n (pc := 211) hC dX11_readPurse_211 rfl ?_
            refine st_iload_n (pc := 212) hC dX11_readPurse_212 rfl ?_
            refine st_iadd (pc := 213) hC dX11_readPurse_213 ?_
            refine st_dup2IR (pc := 214) hC dX11_readPurse_214 (by decide) (by decide) ?_
            obtain ⟨hb, h⟩ := h
            refine st_iald (n := 181) (pc := 215) hC dX11_readPurse_215 (by decide) hb ?_
            refine st_iload_n (pc := 216) hC dX11_readPurse_216 rfl ?_
            refine st_iadd (pc := 217) hC dX11_readPurse_217 ?_
            obtain ⟨hb, h⟩ := h
            refine st_iast (n := 181) (pc := 218) hC dX11_readPurse_218 (by decide) hb ?_
            refine st_goto (tg := 63) (pc := 219) hC dX11_readPurse_219 (by decide) ?_
            exact st_fg (L2 := [rV 20 66, iV x1, iV v2, uV]) hC ⟨Or.inl rfl, Or.inl rfl, Or.inl rfl, Or.inr rfl, trivial⟩ h
          · refine st_aload_n (pc := 131) hC dX11_readPurse_131 rfl (by decide) (by decide) ?_
            refine st_getf (ci := 10) (f := 12) (v := iV (σ18 66 12)) (pc := 132) hC dX11_readPurse_132 fl_11_93 rfl rfl ?_
            refine st_istore_n (L2 := [rV 20 66, iV x1, iV v2, iV (σ18 66 12)]) (pc := 135) hC dX11_readPurse_135 (Nat.le_of_ble_eq_true rfl) rfl ?_
            refine st_aload_n (pc := 136) hC dX11_readPurse_136 rfl (by decide) (by decide) ?_
            refine st_getf (ci := 10) (f := 11) (v := iV (σ18 66 11)) (pc := 137) hC dX11_readPurse_137 fl_11_79 rfl rfl ?_
            refine st_iconst (pc := 140) hC dX11_readPurse_140 (by decide) ?_
            refine st_icmp_eq (tg := 152) (pc := 141) hC dX11_readPurse_141 (by decide) (ite_im h (fun h => ?_) (fun h => ?_))
            · refine st_aload_n (pc := 152) hC dX11_readPurse_152 rfl (by decide) (by decide) ?_
              refine st_getf (ci := 10) (f := 12) (v := iV (σ18 66 12)) (pc := 153) hC dX11_readPurse_153 fl_11_93 rfl rfl ?_
              refine st_i2l (pc := 156) hC dX11_readPurse_156 ?_
              refine st_lconst1 (pc := 157) hC dX11_readPurse_157 ?_
              refine st_ldc2 (pc := 158) hC dX11_readPurse_158 rfl ?_
              obtain ⟨v19, hq, h⟩ := h
              refine st_invS (As := [lV (σ18 66 12), lV 1, lV 9]) (v := [iV v19]) (S := []) (pc := 161) hC dX11_readPurse_161 cl_11_133 rfl rfl (Nat.le_of_ble_eq_true rfl) hq ?_
              refine st_if_ne (tg := 175) (pc := 164) hC dX11_readPurse_164 (by decide) (ite_im h (fun h => ?_) (fun h => ?_))
              · refine st_aload_n (pc := 167) hC dX11_readPurse_167 rfl (by decide) (by decide) ?_
                refine st_iconst (pc := 168) hC dX11_readPurse_168 (by decide) ?_
                obtain ⟨σ20, hq, h⟩ := h
                refine st_invV (As := [iV 3]) (v := []) (S := []) (pc := 169) hC dX11_readPurse_169 cl_11_121 rfl rfl (Nat.le_of_ble_eq_true rfl) cr_X11_blames hq ?_
                refine st_goto (tg := 195) (pc := 172) hC dX11_readPurse_172 (by decide) ?_
                refine st_aload_n (pc := 195) hC dX11_readPurse_195 rfl (by decide) (by decide) ?_
                refine st_getf (ci := 10) (f := 13) (v := iV (σ20 66 13)) (pc := 196) hC dX11_readPurse_196 fl_11_96 rfl rfl ?_
                refine st_if_eq (tg := 203) (pc := 199) hC dX11_readPurse_199 (by decide) (ite_im h (fun h => ?_) (fun h => ?_))
                · refine st_aload_n (pc := 203) hC dX11_readPurse_203 rfl (by decide) (by decide) ?_
                  obtain ⟨σ21, hq, h⟩ := h
                  refine st_invV (As := []) (v := []) (S := []) (pc := 204) hC dX11_readPurse_204 cl_11_115 rfl rfl (Nat.le_of_ble_eq_true rfl) cr_X11_reads hq ?_
                  refine st_aload_n (pc := 207) hC dX11_readPurse_207 rfl (by decide) (by decide) ?_
                  refine st_getf (ci := 10) (f := 1) (v := rV 1000181 68) (pc := 208) hC dX11_readPurse_208 fl_11_13 rfl rfl ?_
                  refine st_iload_n (pc := 211) hC dX11_readPurse_211 rfl ?_
                  refine st_iload_n (pc := 212) hC dX11_readPurse_212 rfl ?_
                  refine st_iadd (pc := 213) hC dX11_readPurse_213 ?_
                  refine st_dup2IR (pc := 214) hC dX11_readPurse_214 (by decide) (by decide) ?_
                  obtain ⟨hb, h⟩ := h
                  refine st_iald (n := 181) (pc := 215) hC dX11_readPurse_215 (by decide) hb ?_
                  refine st_iload_n (pc := 216) hC dX11_readPurse_216 rfl ?_
                  refine st_iadd (pc := 217) hC dX11_readPurse_217 ?_
                  obtain ⟨hb, h⟩ := h
                  refine st_iast (n := 181) (pc := 218) hC dX11_readPurse_218 (by decide) hb ?_
                  refine st_goto (tg := 63) (pc := 219) hC dX11_readPurse_219 (by decide) ?_
                  exact st_fg (L2 := [rV 20 66, iV x1, iV v2, uV]) hC ⟨Or.inl rfl, Or.inl rfl, Or.inl rfl, Or.inr rfl, trivial⟩ h
                · exact st_return (pc := 202) hC dX11_readPurse_202 h
              · refine st_aload_n (pc := 175) hC dX11_readPurse_175 rfl (by decide) (by decide) ?_
                refine st_iload_n (pc := 176) hC dX11_readPurse_176 rfl ?_
                obtain ⟨v22, hq, h⟩ := h
                refine st_invV (As := [iV x1]) (v := [iV v22]) (S := []) (pc := 177) hC dX11_readPurse_177 cl_11_153 rfl rfl (Nat.le_of_ble_eq_true rfl) cr_X11_inPurse hq ?_
                refine st_aload_n (pc := 180) hC dX11_readPurse_180 rfl (by decide) (by decide) ?_
                refine st_getf (ci := 10) (f := 12) (v := iV (σ18 66 12)) (pc := 181) hC dX11_readPurse_181 fl_11_93 rfl rfl ?_
                refine st_iadd (pc := 184) hC dX11_readPurse_184 ?_
                refine st_bipush (pc := 185) hC dX11_readPurse_185 (by decide) ?_
                refine st_icmp_le (tg := 195) (pc := 187) hC dX11_readPurse_187 (by decide) (ite_im h (fun h => ?_) (fun h => ?_))
                · refine st_aload_n (pc := 190) hC dX11_readPurse_190 rfl (by decide) (by decide) ?_
                  refine st_iconst (pc := 191) hC dX11_readPurse_191 (by decide) ?_
                  obtain ⟨σ23, hq, h⟩ := h
                  refine st_invV (As := [iV 4]) (v := []) (S := []) (pc := 192) hC dX11_readPurse_192 cl_11_121 rfl rfl (Nat.le_of_ble_eq_true rfl) cr_X11_blames hq ?_
                  refine st_aload_n (pc := 195) hC dX11_readPurse_195 rfl (by decide) (by decide) ?_
                  refine st_getf (ci := 10) (f := 13) (v := iV (σ23 66 13)) (pc := 196) hC dX11_readPurse_196 fl_11_96 rfl rfl ?_
                  refine st_if_eq (tg := 203) (pc := 199) hC dX11_readPurse_199 (by decide) (ite_im h (fun h => ?_) (fun h => ?_))
                  · refine st_aload_n (pc := 203) hC dX11_readPurse_203 rfl (by decide) (by decide) ?_
                    obtain ⟨σ24, hq, h⟩ := h
                    refine st_invV (As := []) (v := []) (S := []) (pc := 204) hC dX11_readPurse_204 cl_11_115 rfl rfl (Nat.le_of_ble_eq_true rfl) cr_X11_reads hq ?_
                    refine st_aload_n (pc := 207) hC dX11_readPurse_207 rfl (by decide) (by decide) ?_
                    refine st_getf (ci := 10) (f := 1) (v := rV 1000181 68) (pc := 208) hC dX11_readPurse_208 fl_11_13 rfl rfl ?_
                    refine st_iload_n (pc := 211) hC dX11_readPurse_211 rfl ?_
                    refine st_iload_n (pc := 212) hC dX11_readPurse_212 rfl ?_
                    refine st_iadd (pc := 213) hC dX11_readPurse_213 ?_
                    refine st_dup2IR (pc := 214) hC dX11_readPurse_214 (by decide) (by decide) ?_
                    obtain ⟨hb, h⟩ := h
                    refine st_iald (n := 181) (pc := 215) hC dX11_readPurse_215 (by decide) hb ?_
                    refine st_iload_n (pc := 216) hC dX11_readPurse_216 rfl ?_
                    refine st_iadd (pc := 217) hC dX11_readPurse_217 ?_
                    obtain ⟨hb, h⟩ := h
                    refine st_iast (n := 181) (pc := 218) hC dX11_readPurse_218 (by decide) hb ?_
                    refine st_goto (tg := 63) (pc := 219) hC dX11_readPurse_219 (by decide) ?_
                    exact st_fg (L2 := [rV 20 66, iV x1, iV v2, uV]) hC ⟨Or.inl rfl, Or.inl rfl, Or.inl rfl, Or.inr rfl, trivial⟩ h
                  · exact st_return (pc := 202) hC dX11_readPurse_202 h
                · refine st_aload_n (pc := 195) hC dX11_readPurse_195 rfl (by decide) (by decide) ?_
                  refine st_getf (ci := 10) (f := 13) (v := iV (σ18 66 13)) (pc := 196) hC dX11_readPurse_196 fl_11_96 rfl rfl ?_
                  refine st_if_eq (tg := 203) (pc := 199) hC dX11_readPurse_199 (by decide) (ite_im h (fun h => ?_) (fun h => ?_))
                  · refine st_aload_n (pc := 203) hC dX11_readPurse_203 rfl (by decide) (by decide) ?_
                    obtain ⟨σ25, hq, h⟩ := h
                    refine st_invV (As := []) (v := []) (S := []) (pc := 204) hC dX11_readPurse_204 cl_11_115 rfl rfl (Nat.le_of_ble_eq_true rfl) cr_X11_reads hq ?_
                    refine st_aload_n (pc := 207) hC dX11_readPurse_207 rfl (by decide) (by decide) ?_
                    refine st_getf (ci := 10) (f := 1) (v := rV 1000181 68) (pc := 208) hC dX11_readPurse_208 fl_11_13 rfl rfl ?_
                    refine st_iload_n (pc := 211) hC dX11_readPurse_211 rfl ?_
                    refine st_iload_n (pc := 212) hC dX11_readPurse_212 rfl ?_
                    refine st_iadd (pc := 213) hC dX11_readPurse_213 ?_
                    refine st_dup2IR (pc := 214) hC dX11_readPurse_214 (by decide) (by decide) ?_
                    obtain ⟨hb, h⟩ := h
                    refine st_iald (n := 181) (pc := 215) hC dX11_readPurse_215 (by decide) hb ?_
                    refine st_iload_n (pc := 216) hC dX11_readPurse_216 rfl ?_
                    refine st_iadd (pc := 217) hC dX11_readPurse_217 ?_
                    obtain ⟨hb, h⟩ := h
                    refine st_iast (n := 181) (pc := 218) hC dX11_readPurse_218 (by decide) hb ?_
                    refine st_goto (tg := 63) (pc := 219) hC dX11_readPurse_219 (by decide) ?_
                    exact st_fg (L2 := [rV 20 66, iV x1, iV v2, uV]) hC ⟨Or.inl rfl, Or.inl rfl, Or.inl rfl, Or.inr rfl, trivial⟩ h
                  · exact st_return (pc := 202) hC dX11_readPurse_202 h
            · refine st_aload_n (pc := 144) hC dX11_readPurse_144 rfl (by decide) (by decide) ?_
              refine st_iconst (pc := 145) hC dX11_readPurse_145 (by decide) ?_
              obtain ⟨σ26, hq, h⟩ := h
              refine st_invV (As := [iV 2]) (v := []) (S := []) (pc := 146) hC dX11_readPurse_146 cl_11_121 rfl rfl (Nat.le_of_ble_eq_true rfl) cr_X11_blames hq ?_
              refine st_goto (tg := 195) (pc := 149) hC dX11_readPurse_149 (by decide) ?_
              refine st_aload_n (pc := 195) hC dX11_readPurse_195 rfl (by decide) (by decide) ?_
              refine st_getf (ci := 10) (f := 13) (v := iV (σ26 66 13)) (pc := 196) hC dX11_readPurse_196 fl_11_96 rfl rfl ?_
              refine st_if_eq (tg := 203) (pc := 199) hC dX11_readPurse_199 (by decide) (ite_im h (fun h => ?_) (fun h => ?_))
              · refine st_aload_n (pc := 203) hC dX11_readPurse_203 rfl (by decide) (by decide) ?_
                obtain ⟨σ27, hq, h⟩ := h
                refine st_invV (As := []) (v := []) (S := []) (pc := 204) hC dX11_readPurse_204 cl_11_115 rfl rfl (Nat.le_of_ble_eq_true rfl) cr_X11_reads hq ?_
                refine st_aload_n (pc := 207) hC dX11_readPurse_207 rfl (by decide) (by decide) ?_
                refine st_getf (ci := 10) (f := 1) (v := rV 1000181 68) (pc := 208) hC dX11_readPurse_208 fl_11_13 rfl rfl ?_
                refine st_iload_n (pc := 211) hC dX11_readPurse_211 rfl ?_
                refine st_iload_n (pc := 212) hC dX11_readPurse_212 rfl ?_
                refine st_iadd (pc := 213) hC dX11_readPurse_213 ?_
                refine st_dup2IR (pc := 214) hC dX11_readPurse_214 (by decide) (by decide) ?_
                obtain ⟨hb, h⟩ := h
                refine st_iald (n := 181) (pc := 215) hC dX11_readPurse_215 (by decide) hb ?_
                refine st_iload_n (pc := 216) hC dX11_readPurse_216 rfl ?_
                refine st_iadd (pc := 217) hC dX11_readPurse_217 ?_
                obtain ⟨hb, h⟩ := h
                refine st_iast (n := 181) (pc := 218) hC dX11_readPurse_218 (by decide) hb ?_
                refine st_goto (tg := 63) (pc := 219) hC dX11_readPurse_219 (by decide) ?_
                exact st_fg (L2 := [rV 20 66, iV x1, iV v2, uV]) hC ⟨Or.inl rfl, Or.inl rfl, Or.inl rfl, Or.inr rfl, trivial⟩ h
              · exact st_return (pc := 202) hC dX11_readPurse_202 h
        · exact st_return (pc := 115) hC dX11_readPurse_115 h
    · refine st_aload_n (pc := 93) hC dX11_readPurse_93 rfl (by decide) (by decide) ?_
      refine st_iload_n (pc := 94) hC dX11_readPurse_94 rfl ?_
      obtain ⟨v28, hq, h⟩ := h
      refine st_invV (As := [iV x1]) (v := [iV v28]) (S := []) (pc := 95) hC dX11_readPurse_95 cl_11_153 rfl rfl (Nat.le_of_ble_eq_true rfl) cr_X11_inPurse hq ?_
      refine st_bipush (pc := 98) hC dX11_readPurse_98 (by decide) ?_
      refine st_icmp_ne (tg := 108) (pc := 100) hC dX11_readPurse_100 (by decide) (ite_im h (fun h => ?_) (fun h => ?_))
      · refine st_aload_n (pc := 103) hC dX11_readPurse_103 rfl (by decide) (by decide) ?_
        refine st_iconst (pc := 104) hC dX11_readPurse_104 (by decide) ?_
        obtain ⟨σ29, hq, h⟩ := h
        refine st_invV (As := [iV 4]) (v := []) (S := []) (pc := 105) hC dX11_readPurse_105 cl_11_121 rfl rfl (Nat.le_of_ble_eq_true rfl) cr_X11_blames hq ?_
        refine st_aload_n (pc := 108) hC dX11_readPurse_108 rfl (by decide) (by decide) ?_
        refine st_getf (ci := 10) (f := 13) (v := iV (σ29 66 13)) (pc := 109) hC dX11_readPurse_109 fl_11_96 rfl rfl ?_
        refine st_if_eq (tg := 116) (pc := 112) hC dX11_readPurse_112 (by decide) (ite_im h (fun h => ?_) (fun h => ?_))
        · refine st_aload_n (pc := 116) hC dX11_readPurse_116 rfl (by decide) (by decide) ?_
          obtain ⟨σ30, hq, h⟩ := h
          refine st_invV (As := []) (v := []) (S := []) (pc := 117) hC dX11_readPurse_117 cl_11_115 rfl rfl (Nat.le_of_ble_eq_true rfl) cr_X11_reads hq ?_
          refine st_iconst (pc := 120) hC dX11_readPurse_120 (by decide) ?_
          refine st_istore_n (L2 := [rV 20 66, iV x1, iV v2, iV 1]) (pc := 121) hC dX11_readPurse_121 (Nat.le_of_ble_eq_true rfl) rfl ?_
          refine st_aload_n (pc := 122) hC dX11_readPurse_122 rfl (by decide) (by decide) ?_
          refine st_ldcS (j := 6) (pc := 123) hC dX11_readPurse_123 rfl ?_
          obtain ⟨v31, σ31, hq, h⟩ := h
          refine st_invV (As := [rV 30 1006]) (v := [iV v31]) (S := []) (pc := 125) hC dX11_readPurse_125 cl_11_118 rfl rfl (Nat.le_of_ble_eq_true rfl) cr_X11_took hq ?_
          refine st_if_eq (tg := 207) (pc := 128) hC dX11_readPurse_128 (by decide) (ite_im h (fun h => ?_) (fun h => ?_))
          · refine st_aload_n (pc := 207) hC dX11_readPurse_207 rfl (by decide) (by decide) ?_
            refine st_getf (ci := 10) (f := 1) (v := rV 1000181 68) (pc := 208) hC dX11_readPurse_208 fl_11_13 rfl rfl ?_
            refine st_iload_n (pc := 211) hC dX11_readPurse_211 rfl ?_
            refine st_iload_n (pc := 212) hC dX11_readPurse_212 rfl ?_
            refine st_iadd (pc := 213) hC dX11_readPurse_213 ?_
            refine st_dup2IR (pc := 214) hC dX11_readPurse_214 (by decide) (by decide) ?_
            obtain ⟨hb, h⟩ := h
            refine st_iald (n := 181) (pc := 215) hC dX11_readPurse_215 (by decide) hb ?_
            refine st_iload_n (pc := 216) hC dX11_readPurse_216 rfl ?_
            refine st_iadd (pc := 217) hC dX11_readPurse_217 ?_
            obtain ⟨hb, h⟩ := h
            refine st_iast (n := 181) (pc := 218) hC dX11_readPurse_218 (by decide) hb ?_
            refine st_goto (tg := 63) (pc := 219) hC dX11_readPurse_219 (by decide) ?_
            exact st_fg (L2 := [rV 20 66, iV x1, iV v2, uV]) hC ⟨Or.inl rfl, Or.inl rfl, Or.inl rfl, Or.inr rfl, trivial⟩ h
          · refine st_aload_n (pc := 131) hC dX11_readPurse_131 rfl (by decide) (by decide) ?_
            refine st_getf (ci := 10) (f := 12) (v := iV (σ31 66 12)) (pc := 132) hC dX11_readPurse_132 fl_11_93 rfl rfl ?_
            refine st_istore_n (L2 := [rV 20 66, iV x1, iV v2, iV (σ31 66 12)]) (pc := 135) hC dX11_readPurse_135 (Nat.le_of_ble_eq_true rfl) rfl ?_
            refine st_aload_n (pc := 136) hC dX11_readPurse_136 rfl (by decide) (by decide) ?_
            refine st_getf (ci := 10) (f := 11) (v := iV (σ31 66 11)) (pc := 137) hC dX11_readPurse_137 fl_11_79 rfl rfl ?_
            refine st_iconst (pc := 140) hC dX11_readPurse_140 (by decide) ?_
            refine st_icmp_eq (tg := 152) (pc := 141) hC dX11_readPurse_141 (by decide) (ite_im h (fun h => ?_) (fun h => ?_))
            · refine st_aload_n (pc := 152) hC dX11_readPurse_152 rfl (by decide) (by decide) ?_
              refine st_getf (ci := 10) (f := 12) (v := iV (σ31 66 12)) (pc := 153) hC dX11_readPurse_153 fl_11_93 rfl rfl ?_
              refine st_i2l (pc := 156) hC dX11_readPurse_156 ?_
              refine st_lconst1 (pc := 157) hC dX11_readPurse_157 ?_
              refine st_ldc2 (pc := 158) hC dX11_readPurse_158 rfl ?_
              obtain ⟨v32, hq, h⟩ := h
              refine st_invS (As := [lV (σ31 66 12), lV 1, lV 9]) (v := [iV v32]) (S := []) (pc := 161) hC dX11_readPurse_161 cl_11_133 rfl rfl (Nat.le_of_ble_eq_true rfl) hq ?_
              refine st_if_ne (tg := 175) (pc := 164) hC dX11_readPurse_164 (by decide) (ite_im h (fun h => ?_) (fun h => ?_))
              · refine st_aload_n (pc := 167) hC dX11_readPurse_167 rfl (by decide) (by decide) ?_
                refine st_iconst (pc := 168) hC dX11_readPurse_168 (by decide) ?_
                obtain ⟨σ33, hq, h⟩ := h
                refine st_invV (As := [iV 3]) (v := []) (S := []) (pc := 169) hC dX11_readPurse_169 cl_11_121 rfl rfl (Nat.le_of_ble_eq_true rfl) cr_X11_blames hq ?_
                refine st_goto (tg := 195) (pc := 172) hC dX11_readPurse_172 (by decide) ?_
                refine st_aload_n (pc := 195) hC dX11_readPurse_195 rfl (by decide) (by decide) ?_
                refine st_getf (ci := 10) (f := 13) (v := iV (σ33 66 13)) (pc := 196) hC dX11_readPurse_196 fl_11_96 rfl rfl ?_
                refine st_if_eq (tg := 203) (pc := 199) hC dX11_readPurse_199 (by decide) (ite_im h (fun h => ?_) (fun h => ?_))
                · refine st_aload_n (pc := 203) hC dX11_readPurse_203 rfl (by decide) (by decide) ?_
                  obtain ⟨σ34, hq, h⟩ := h
                  refine st_invV (As := []) (v := []) (S := []) (pc := 204) hC dX11_readPurse_204 cl_11_115 rfl rfl (Nat.le_of_ble_eq_true rfl) cr_X11_reads hq ?_
                  refine st_aload_n (pc := 207) hC dX11_readPurse_207 rfl (by decide) (by decide) ?_
                  refine st_getf (ci := 10) (f := 1) (v := rV 1000181 68) (pc := 208) hC dX11_readPurse_208 fl_11_13 rfl rfl ?_
                  refine st_iload_n (pc := 211) hC dX11_readPurse_211 rfl ?_
                  refine st_iload_n (pc := 212) hC dX11_readPurse_212 rfl ?_
                  refine st_iadd (pc := 213) hC dX11_readPurse_213 ?_
                  refine st_dup2IR (pc := 214) hC dX11_readPurse_214 (by decide) (by decide) ?_
                  obtain ⟨hb, h⟩ := h
                  refine st_iald (n := 181) (pc := 215) hC dX11_readPurse_215 (by decide) hb ?_
                  refine st_iload_n (pc := 216) hC dX11_readPurse_216 rfl ?_
                  refine st_iadd (pc := 217) hC dX11_readPurse_217 ?_
                  obtain ⟨hb, h⟩ := h
                  refine st_iast (n := 181) (pc := 218) hC dX11_readPurse_218 (by decide) hb ?_
                  refine st_goto (tg := 63) (pc := 219) hC dX11_readPurse_219 (by decide) ?_
                  exact st_fg (L2 := [rV 20 66, iV x1, iV v2, uV]) hC ⟨Or.inl rfl, Or.inl rfl, Or.inl rfl, Or.inr rfl, trivial⟩ h
                · exact st_return (pc := 202) hC dX11_readPurse_202 h
              · refine st_aload_n (pc := 175) hC dX11_readPurse_175 rfl (by decide) (by decide) ?_
                refine st_iload_n (pc := 176) hC dX11_readPurse_176 rfl ?_
                obtain ⟨v35, hq, h⟩ := h
                refine st_invV (As := [iV x1]) (v := [iV v35]) (S := []) (pc := 177) hC dX11_readPurse_177 cl_11_153 rfl rfl (Nat.le_of_ble_eq_true rfl) cr_X11_inPurse hq ?_
                refine st_aload_n (pc := 180) hC dX11_readPurse_180 rfl (by decide) (by decide) ?_
                refine st_getf (ci := 10) (f := 12) (v := iV (σ31 66 12)) (pc := 181) hC dX11_readPurse_181 fl_11_93 rfl rfl ?_
                refine st_iadd (pc := 184) hC dX11_readPurse_184 ?_
                refine st_bipush (pc := 185) hC dX11_readPurse_185 (by decide) ?_
                refine st_icmp_le (tg := 195) (pc := 187) hC dX11_readPurse_187 (by decide) (ite_im h (fun h => ?_) (fun h => ?_))
                · refine st_aload_n (pc := 190) hC dX11_readPurse_190 rfl (by decide) (by decide) ?_
                  refine st_iconst (pc := 191) hC dX11_readPurse_191 (by decide) ?_
                  obtain ⟨σ36, hq, h⟩ := h
                  refine st_invV (As := [iV 4]) (v := []) (S := []) (pc := 192) hC dX11_readPurse_192 cl_11_121 rfl rfl (Nat.le_of_ble_eq_true rfl) cr_X11_blames hq ?_
                  refine st_aload_n (pc := 195) hC dX11_readPurse_195 rfl (by decide) (by decide) ?_
                  refine st_getf (ci := 10) (f := 13) (v := iV (σ36 66 13)) (pc := 196) hC dX11_readPurse_196 fl_11_96 rfl rfl ?_
                  refine st_if_eq (tg := 203) (pc := 199) hC dX11_readPurse_199 (by decide) (ite_im h (fun h => ?_) (fun h => ?_))
                  · refine st_aload_n (pc := 203) hC dX11_readPurse_203 rfl (by decide) (by decide) ?_
                    obtain ⟨σ37, hq, h⟩ := h
                    refine st_invV (As := []) (v := []) (S := []) (pc := 204) hC dX11_readPurse_204 cl_11_115 rfl rfl (Nat.le_of_ble_eq_true rfl) cr_X11_reads hq ?_
                    refine st_aload_n (pc := 207) hC dX11_readPurse_207 rfl (by decide) (by decide) ?_
                    refine st_getf (ci := 10) (f := 1) (v := rV 1000181 68) (pc := 208) hC dX11_readPurse_208 fl_11_13 rfl rfl ?_
                    refine st_iload_n (pc := 211) hC dX11_readPurse_211 rfl ?_
                    refine st_iload_n (pc := 212) hC dX11_readPurse_212 rfl ?_
                    refine st_iadd (pc := 213) hC dX11_readPurse_213 ?_
                    refine st_dup2IR (pc := 214) hC dX11_readPurse_214 (by decide) (by decide) ?_
                    obtain ⟨hb, h⟩ := h
                    refine st_iald (n := 181) (pc := 215) hC dX11_readPurse_215 (by decide) hb ?_
                    refine st_iload_n (pc := 216) hC dX11_readPurse_216 rfl ?_
                    refine st_iadd (pc := 217) hC dX11_readPurse_217 ?_
                    obtain ⟨hb, h⟩ := h
                    refine st_iast (n := 181) (pc := 218) hC dX11_readPurse_218 (by decide) hb ?_
                    refine st_goto (tg := 63) (pc := 219) hC dX11_readPurse_219 (by decide) ?_
                    exact st_fg (L2 := [rV 20 66, iV x1, iV v2, uV]) hC ⟨Or.inl rfl, Or.inl rfl, Or.inl rfl, Or.inr rfl, trivial⟩ h
                  · exact st_return (pc := 202) hC dX11_readPurse_202 h
                · refine st_aload_n (pc := 195) hC dX11_readPurse_195 rfl (by decide) (by decide) ?_
                  refine st_getf (ci := 10) (f := 13) (v := iV (σ31 66 13)) (pc := 196) hC dX11_readPurse_196 fl_11_96 rfl rfl ?_
                  refine st_if_eq (tg := 203) (pc := 199) hC dX11_readPurse_199 (by decide) (ite_im h (fun h => ?_) (fun h => ?_))
                  · refine st_aload_n (pc := 203) hC dX11_readPurse_203 rfl (by decide) (by decide) ?_
                    obtain ⟨σ38, hq, h⟩ := h
                    refine st_invV (As := []) (v := []) (S := []) (pc := 204) hC dX11_readPurse_204 cl_11_115 rfl rfl (Nat.le_of_ble_eq_true rfl) cr_X11_reads hq ?_
                    refine st_aload_n (pc := 207) hC dX11_readPurse_207 rfl (by decide) (by decide) ?_
                    refine st_getf (ci := 10) (f := 1) (v := rV 1000181 68) (pc := 208) hC dX11_readPurse_208 fl_11_13 rfl rfl ?_
                    refine st_iload_n (pc := 211) hC dX11_readPurse_211 rfl ?_
                    refine st_iload_n (pc := 212) hC dX11_readPurse_212 rfl ?_
                    refine st_iadd (pc := 213) hC dX11_readPurse_213 ?_
                    refine st_dup2IR (pc := 214) hC dX11_readPurse_214 (by decide) (by decide) ?_
                    obtain ⟨hb, h⟩ := h
                    refine st_iald (n := 181) (pc := 215) hC dX11_readPurse_215 (by decide) hb ?_
                    refine st_iload_n (pc := 216) hC dX11_readPurse_216 rfl ?_
                    refine st_iadd (pc := 217) hC dX11_readPurse_217 ?_
                    obtain ⟨hb, h⟩ := h
                    refine st_iast (n := 181) (pc := 218) hC dX11_readPurse_218 (by decide) hb ?_
                    refine st_goto (tg := 63) (pc := 219) hC dX11_readPurse_219 (by decide) ?_
                    exact st_fg (L2 := [rV 20 66, iV x1, iV v2, uV]) hC ⟨Or.inl rfl, Or.inl rfl, Or.inl rfl, Or.inr rfl, trivial⟩ h
                  · exact st_return (pc := 202) hC dX11_readPurse_202 h
            · refine st_aload_n (pc := 144) hC dX11_readPurse_144 rfl (by decide) (by decide) ?_
              refine st_iconst (pc := 145) hC dX11_readPurse_145 (by decide) ?_
              obtain ⟨σ39, hq, h⟩ := h
              refine st_invV (As := [iV 2]) (v := []) (S := []) (pc := 146) hC dX11_readPurse_146 cl_11_121 rfl rfl (Nat.le_of_ble_eq_true rfl) cr_X11_blames hq ?_
              refine st_goto (tg := 195) (pc := 149) hC dX11_readPurse_149 (by decide) ?_
              refine st_aload_n (pc := 195) hC dX11_readPurse_195 rfl (by decide) (by decide) ?_
              refine st_getf (ci := 10) (f := 13) (v := iV (σ39 66 13)) (pc := 196) hC dX11_readPurse_196 fl_11_96 rfl rfl ?_
              refine st_if_eq (tg := 203) (pc := 199) hC dX11_readPurse_199 (by decide) (ite_im h (fun h => ?_) (fun h => ?_))
              · refine st_aload_n (pc := 203) hC dX11_readPurse_203 rfl (by decide) (by decide) ?_
                obtain ⟨σ40, hq, h⟩ := h
                refine st_invV (As := []) (v := []) (S := []) (pc := 204) hC dX11_readPurse_204 cl_11_115 rfl rfl (Nat.le_of_ble_eq_true rfl) cr_X11_reads hq ?_
                refine st_aload_n (pc := 207) hC dX11_readPurse_207 rfl (by decide) (by decide) ?_
                refine st_getf (ci := 10) (f := 1) (v := rV 1000181 68) (pc := 208) hC dX11_readPurse_208 fl_11_13 rfl rfl ?_
                refine st_iload_n (pc := 211) hC dX11_readPurse_211 rfl ?_
                refine st_iload_n (pc := 212) hC dX11_readPurse_212 rfl ?_
                refine st_iadd (pc := 213) hC dX11_readPurse_213 ?_
                refine st_dup2IR (pc := 214) hC dX11_readPurse_214 (by decide) (by decide) ?_
                obtain ⟨hb, h⟩ := h
                refine st_iald (n := 181) (pc := 215) hC dX11_readPurse_215 (by decide) hb ?_
                refine st_iload_n (pc := 216) hC dX11_readPurse_216 rfl ?_
                refine st_iadd (pc := 217) hC dX11_readPurse_217 ?_
                obtain ⟨hb, h⟩ := h
                refine st_iast (n := 181) (pc := 218) hC dX11_readPurse_218 (by decide) hb ?_
                refine st_goto (tg := 63) (pc := 219) hC dX11_readPurse_219 (by decide) ?_
                exact st_fg (L2 := [rV 20 66, iV x1, iV v2, uV]) hC ⟨Or.inl rfl, Or.inl rfl, Or.inl rfl, Or.inr rfl, trivial⟩ h
              · exact st_return (pc := 202) hC dX11_readPurse_202 h
        · exact st_return (pc := 115) hC dX11_readPurse_115 h
      · refine st_aload_n (pc := 108) hC dX11_readPurse_108 rfl (by decide) (by decide) ?_
        refine st_getf (ci := 10) (f := 13) (v := iV (σ 66 13)) (pc := 109) hC dX11_readPurse_109 fl_11_96 rfl rfl ?_
        refine st_if_eq (tg := 116) (pc := 112) hC dX11_readPurse_112 (by decide) (ite_im h (fun h => ?_) (fun h => ?_))
        · refine st_aload_n (pc := 116) hC dX11_readPurse_116 rfl (by decide) (by decide) ?_
          obtain ⟨σ41, hq, h⟩ := h
          refine st_invV (As := []) (v := []) (S := []) (pc := 117) hC dX11_readPurse_117 cl_11_115 rfl rfl (Nat.le_of_ble_eq_true rfl) cr_X11_reads hq ?_
          refine st_iconst (pc := 120) hC dX11_readPurse_120 (by decide) ?_
          refine st_istore_n (L2 := [rV 20 66, iV x1, iV v2, iV 1]) (pc := 121) hC dX11_readPurse_121 (Nat.le_of_ble_eq_true rfl) rfl ?_
          refine st_aload_n (pc := 122) hC dX11_readPurse_122 rfl (by decide) (by decide) ?_
          refine st_ldcS (j := 6) (pc := 123) hC dX11_readPurse_123 rfl ?_
          obtain ⟨v42, σ42, hq, h⟩ := h
          refine st_invV (As := [rV 30 1006]) (v := [iV v42]) (S := []) (pc := 125) hC dX11_readPurse_125 cl_11_118 rfl rfl (Nat.le_of_ble_eq_true rfl) cr_X11_took hq ?_
          refine st_if_eq (tg := 207) (pc := 128) hC dX11_readPurse_128 (by decide) (ite_im h (fun h => ?_) (fun h => ?_))
          · refine st_aload_n (pc := 207) hC dX11_readPurse_207 rfl (by decide) (by decide) ?_
            refine st_getf (ci := 10) (f := 1) (v := rV 1000181 68) (pc := 208) hC dX11_readPurse_208 fl_11_13 rfl rfl ?_
            refine st_iload_n (pc := 211) hC dX11_readPurse_211 rfl ?_
            refine st_iload_n (pc := 212) hC dX11_readPurse_212 rfl ?_
            refine st_iadd (pc := 213) hC dX11_readPurse_213 ?_
            refine st_dup2IR (pc := 214) hC dX11_readPurse_214 (by decide) (by decide) ?_
            obtain ⟨hb, h⟩ := h
            refine st_iald (n := 181) (pc := 215) hC dX11_readPurse_215 (by decide) hb ?_
            refine st_iload_n (pc := 216) hC dX11_readPurse_216 rfl ?_
            refine st_iadd (pc := 217) hC dX11_readPurse_217 ?_
            obtain ⟨hb, h⟩ := h
            refine st_iast (n := 181) (pc := 218) hC dX11_readPurse_218 (by decide) hb ?_
            refine st_goto (tg := 63) (pc := 219) hC dX11_readPurse_219 (by decide) ?_
            exact st_fg (L2 := [rV 20 66, iV x1, iV v2, uV]) hC ⟨Or.inl rfl, Or.inl rfl, Or.inl rfl, Or.inr rfl, trivial⟩ h
          · refine st_aload_n (pc := 131) hC dX11_readPurse_131 rfl (by decide) (by decide) ?_
            refine st_getf (ci := 10) (f := 12) (v := iV (σ42 66 12)) (pc := 132) hC dX11_readPurse_132 fl_11_93 rfl rfl ?_
            refine st_istore_n (L2 := [rV 20 66, iV x1, iV v2, iV (σ42 66 12)]) (pc := 135) hC dX11_readPurse_135 (Nat.le_of_ble_eq_true rfl) rfl ?_
            refine st_aload_n (pc := 136) hC dX11_readPurse_136 rfl (by decide) (by decide) ?_
            refine st_getf (ci := 10) (f := 11) (v := iV (σ42 66 11)) (pc := 137) hC dX11_readPurse_137 fl_11_79 rfl rfl ?_
            refine st_iconst (pc := 140) hC dX11_readPurse_140 (by decide) ?_
            refine st_icmp_eq (tg := 152) (pc := 141) hC dX11_readPurse_141 (by decide) (ite_im h (fun h => ?_) (fun h => ?_))
            · refine st_aload_n (pc := 152) hC dX11_readPurse_152 rfl (by decide) (by decide) ?_
              refine st_getf (ci := 10) (f := 12) (v := iV (σ42 66 12)) (pc := 153) hC dX11_readPurse_153 fl_11_93 rfl rfl ?_
              refine st_i2l (pc := 156) hC dX11_readPurse_156 ?_
              refine st_lconst1 (pc := 157) hC dX11_readPurse_157 ?_
              refine st_ldc2 (pc := 158) hC dX11_readPurse_158 rfl ?_
              obtain ⟨v43, hq, h⟩ := h
              refine st_invS (As := [lV (σ42 66 12), lV 1, lV 9]) (v := [iV v43]) (S := []) (pc := 161) hC dX11_readPurse_161 cl_11_133 rfl rfl (Nat.le_of_ble_eq_true rfl) hq ?_
              refine st_if_ne (tg := 175) (pc := 164) hC dX11_readPurse_164 (by decide) (ite_im h (fun h => ?_) (fun h => ?_))
              · refine st_aload_n (pc := 167) hC dX11_readPurse_167 rfl (by decide) (by decide) ?_
                refine st_iconst (pc := 168) hC dX11_readPurse_168 (by decide) ?_
                obtain ⟨σ44, hq, h⟩ := h
                refine st_invV (As := [iV 3]) (v := []) (S := []) (pc := 169) hC dX11_readPurse_169 cl_11_121 rfl rfl (Nat.le_of_ble_eq_true rfl) cr_X11_blames hq ?_
                refine st_goto (tg := 195) (pc := 172) hC dX11_readPurse_172 (by decide) ?_
                refine st_aload_n (pc := 195) hC dX11_readPurse_195 rfl (by decide) (by decide) ?_
                refine st_getf (ci := 10) (f := 13) (v := iV (σ44 66 13)) (pc := 196) hC dX11_readPurse_196 fl_11_96 rfl rfl ?_
                refine st_if_eq (tg := 203) (pc := 199) hC dX11_readPurse_199 (by decide) (ite_im h (fun h => ?_) (fun h => ?_))
                · refine st_aload_n (pc := 203) hC dX11_readPurse_203 rfl (by decide) (by decide) ?_
                  obtain ⟨σ45, hq, h⟩ := h
                  refine st_invV (As := []) (v := []) (S := []) (pc := 204) hC dX11_readPurse_204 cl_11_115 rfl rfl (Nat.le_of_ble_eq_true rfl) cr_X11_reads hq ?_
                  refine st_aload_n (pc := 207) hC dX11_readPurse_207 rfl (by decide) (by decide) ?_
                  refine st_getf (ci := 10) (f := 1) (v := rV 1000181 68) (pc := 208) hC dX11_readPurse_208 fl_11_13 rfl rfl ?_
                  refine st_iload_n (pc := 211) hC dX11_readPurse_211 rfl ?_
                  refine st_iload_n (pc := 212) hC dX11_readPurse_212 rfl ?_
                  refine st_iadd (pc := 213) hC dX11_readPurse_213 ?_
                  refine st_dup2IR (pc := 214) hC dX11_readPurse_214 (by decide) (by decide) ?_
                  obtain ⟨hb, h⟩ := h
                  refine st_iald (n := 181) (pc := 215) hC dX11_readPurse_215 (by decide) hb ?_
                  refine st_iload_n (pc := 216) hC dX11_readPurse_216 rfl ?_
                  refine st_iadd (pc := 217) hC dX11_readPurse_217 ?_
                  obtain ⟨hb, h⟩ := h
                  refine st_iast (n := 181) (pc := 218) hC dX11_readPurse_218 (by decide) hb ?_
                  refine st_goto (tg := 63) (pc := 219) hC dX11_readPurse_219 (by decide) ?_
                  exact st_fg (L2 := [rV 20 66, iV x1, iV v2, uV]) hC ⟨Or.inl rfl, Or.inl rfl, Or.inl rfl, Or.inr rfl, trivial⟩ h
                · exact st_return (pc := 202) hC dX11_readPurse_202 h
              · refine st_aload_n (pc := 175) hC dX11_readPurse_175 rfl (by decide) (by decide) ?_
                refine st_iload_n (pc := 176) hC dX11_readPurse_176 rfl ?_
                obtain ⟨v46, hq, h⟩ := h
                refine st_invV (As := [iV x1]) (v := [iV v46]) (S := []) (pc := 177) hC dX11_readPurse_177 cl_11_153 rfl rfl (Nat.le_of_ble_eq_true rfl) cr_X11_inPurse hq ?_
                refine st_aload_n (pc := 180) hC dX11_readPurse_180 rfl (by decide) (by decide) ?_
                refine st_getf (ci := 10) (f := 12) (v := iV (σ42 66 12)) (pc := 181) hC dX11_readPurse_181 fl_11_93 rfl rfl ?_
                refine st_iadd (pc := 184) hC dX11_readPurse_184 ?_
                refine st_bipush (pc := 185) hC dX11_readPurse_185 (by decide) ?_
                refine st_icmp_le (tg := 195) (pc := 187) hC dX11_readPurse_187 (by decide) (ite_im h (fun h => ?_) (fun h => ?_))
                · refine st_aload_n (pc := 190) hC dX11_readPurse_190 rfl (by decide) (by decide) ?_
                  refine st_iconst (pc := 191) hC dX11_readPurse_191 (by decide) ?_
                  obtain ⟨σ47, hq, h⟩ := h
                  refine st_invV (As := [iV 4]) (v := []) (S := []) (pc := 192) hC dX11_readPurse_192 cl_11_121 rfl rfl (Nat.le_of_ble_eq_true rfl) cr_X11_blames hq ?_
                  refine st_aload_n (pc := 195) hC dX11_readPurse_195 rfl (by decide) (by decide) ?_
                  refine st_getf (ci := 10) (f := 13) (v := iV (σ47 66 13)) (pc := 196) hC dX11_readPurse_196 fl_11_96 rfl rfl ?_
                  refine st_if_eq (tg := 203) (pc := 199) hC dX11_readPurse_199 (by decide) (ite_im h (fun h => ?_) (fun h => ?_))
                  · refine st_aload_n (pc := 203) hC dX11_readPurse_203 rfl (by decide) (by decide) ?_
                    obtain ⟨σ48, hq, h⟩ := h
                    refine st_invV (As := []) (v := []) (S := []) (pc := 204) hC dX11_readPurse_204 cl_11_115 rfl rfl (Nat.le_of_ble_eq_true rfl) cr_X11_reads hq ?_
                    refine st_aload_n (pc := 207) hC dX11_readPurse_207 rfl (by decide) (by decide) ?_
                    refine st_getf (ci := 10) (f := 1) (v := rV 1000181 68) (pc := 208) hC dX11_readPurse_208 fl_11_13 rfl rfl ?_
                    refine st_iload_n (pc := 211) hC dX11_readPurse_211 rfl ?_
                    refine st_iload_n (pc := 212) hC dX11_readPurse_212 rfl ?_
                    refine st_iadd (pc := 213) hC dX11_readPurse_213 ?_
                    refine st_dup2IR (pc := 214) hC dX11_readPurse_214 (by decide) (by decide) ?_
                    obtain ⟨hb, h⟩ := h
                    refine st_iald (n := 181) (pc := 215) hC dX11_readPurse_215 (by decide) hb ?_
                    refine st_iload_n (pc := 216) hC dX11_readPurse_216 rfl ?_
                    refine st_iadd (pc := 217) hC dX11_readPurse_217 ?_
                    obtain ⟨hb, h⟩ := h
                    refine st_iast (n := 181) (pc := 218) hC dX11_readPurse_218 (by decide) hb ?_
                    refine st_goto (tg := 63) (pc := 219) hC dX11_readPurse_219 (by decide) ?_
                    exact st_fg (L2 := [rV 20 66, iV x1, iV v2, uV]) hC ⟨Or.inl rfl, Or.inl rfl, Or.inl rfl, Or.inr rfl, trivial⟩ h
                  · exact st_return (pc := 202) hC dX11_readPurse_202 h
                · refine st_aload_n (pc := 195) hC dX11_readPurse_195 rfl (by decide) (by decide) ?_
                  refine st_getf (ci := 10) (f := 13) (v := iV (σ42 66 13)) (pc := 196) hC dX11_readPurse_196 fl_11_96 rfl rfl ?_
                  refine st_if_eq (tg := 203) (pc := 199) hC dX11_readPurse_199 (by decide) (ite_im h (fun h => ?_) (fun h => ?_))
                  · refine st_aload_n (pc := 203) hC dX11_readPurse_203 rfl (by decide) (by decide) ?_
                    obtain ⟨σ49, hq, h⟩ := h
                    refine st_invV (As := []) (v := []) (S := []) (pc := 204) hC dX11_readPurse_204 cl_11_115 rfl rfl (Nat.le_of_ble_eq_true rfl) cr_X11_reads hq ?_
                    refine st_aload_n (pc := 207) hC dX11_readPurse_207 rfl (by decide) (by decide) ?_
                    refine st_getf (ci := 10) (f := 1) (v := rV 1000181 68) (pc := 208) hC dX11_readPurse_208 fl_11_13 rfl rfl ?_
                    refine st_iload_n (pc := 211) hC dX11_readPurse_211 rfl ?_
                    refine st_iload_n (pc := 212) hC dX11_readPurse_212 rfl ?_
                    refine st_iadd (pc := 213) hC dX11_readPurse_213 ?_
                    refine st_dup2IR (pc := 214) hC dX11_readPurse_214 (by decide) (by decide) ?_
                    obtain ⟨hb, h⟩ := h
                    refine st_iald (n := 181) (pc := 215) hC dX11_readPurse_215 (by decide) hb ?_
                    refine st_iload_n (pc := 216) hC dX11_readPurse_216 rfl ?_
                    refine st_iadd (pc := 217) hC dX11_readPurse_217 ?_
                    obtain ⟨hb, h⟩ := h
                    refine st_iast (n := 181) (pc := 218) hC dX11_readPurse_218 (by decide) hb ?_
                    refine st_goto (tg := 63) (pc := 219) hC dX11_readPurse_219 (by decide) ?_
                    exact st_fg (L2 := [rV 20 66, iV x1, iV v2, uV]) hC ⟨Or.inl rfl, Or.inl rfl, Or.inl rfl, Or.inr rfl, trivial⟩ h
                  · exact st_return (pc := 202) hC dX11_readPurse_202 h
            · refine st_aload_n (pc := 144) hC dX11_readPurse_144 rfl (by decide) (by decide) ?_
              refine st_iconst (pc := 145) hC dX11_readPurse_145 (by decide) ?_
              obtain ⟨σ50, hq, h⟩ := h
              refine st_invV (As := [iV 2]) (v := []) (S := []) (pc := 146) hC dX11_readPurse_146 cl_11_121 rfl rfl (Nat.le_of_ble_eq_true rfl) cr_X11_blames hq ?_
              refine st_goto (tg := 195) (pc := 149) hC dX11_readPurse_149 (by decide) ?_
              refine st_aload_n (pc := 195) hC dX11_readPurse_195 rfl (by decide) (by decide) ?_
              refine st_getf (ci := 10) (f := 13) (v := iV (σ50 66 13)) (pc := 196) hC dX11_readPurse_196 fl_11_96 rfl rfl ?_
              refine st_if_eq (tg := 203) (pc := 199) hC dX11_readPurse_199 (by decide) (ite_im h (fun h => ?_) (fun h => ?_))
              · refine st_aload_n (pc := 203) hC dX11_readPurse_203 rfl (by decide) (by decide) ?_
                obtain ⟨σ51, hq, h⟩ := h
                refine st_invV (As := []) (v := []) (S := []) (pc := 204) hC dX11_readPurse_204 cl_11_115 rfl rfl (Nat.le_of_ble_eq_true rfl) cr_X11_reads hq ?_
                refine st_aload_n (pc := 207) hC dX11_readPurse_207 rfl (by decide) (by decide) ?_
                refine st_getf (ci := 10) (f := 1) (v := rV 1000181 68) (pc := 208) hC dX11_readPurse_208 fl_11_13 rfl rfl ?_
                refine st_iload_n (pc := 211) hC dX11_readPurse_211 rfl ?_
                refine st_iload_n (pc := 212) hC dX11_readPurse_212 rfl ?_
                refine st_iadd (pc := 213) hC dX11_readPurse_213 ?_
                refine st_dup2IR (pc := 214) hC dX11_readPurse_214 (by decide) (by decide) ?_
                obtain ⟨hb, h⟩ := h
                refine st_iald (n := 181) (pc := 215) hC dX11_readPurse_215 (by decide) hb ?_
                refine st_iload_n (pc := 216) hC dX11_readPurse_216 rfl ?_
                refine st_iadd (pc := 217) hC dX11_readPurse_217 ?_
                obtain ⟨hb, h⟩ := h
                refine st_iast (n := 181) (pc := 218) hC dX11_readPurse_218 (by decide) hb ?_
                refine st_goto (tg := 63) (pc := 219) hC dX11_readPurse_219 (by decide) ?_
                exact st_fg (L2 := [rV 20 66, iV x1, iV v2, uV]) hC ⟨Or.inl rfl, Or.inl rfl, Or.inl rfl, Or.inr rfl, trivial⟩ h
              · exact st_return (pc := 202) hC dX11_readPurse_202 h
        · exact st_return (pc := 115) hC dX11_readPurse_115 h
theorem bX11_readSide_0 {C : Nat → List Vv → Sg → Rs → Sg → Prop} {X : Nat → List Vv → List Vv → Sg → Prop} {Xr : List Vv → Sg → Prop} {Xt : Nat → Sg → Prop} (hC : Clo C 11 cX11_readSide none X Xr Xt) {x1 : Int} {σ : Sg} (h : X 2 [rV 20 66, iV x1, iV 0] [] σ) : X 0 [rV 20 66, iV x1, uV] [] σ := by
  refine st_iconst (pc := 0) hC dX11_readSide_0 (by decide) ?_
  refine st_istore_n (L2 := [rV 20 66, iV x1, iV 0]) (pc := 1) hC dX11_readSide_1 (Nat.le_of_ble_eq_true rfl) rfl ?_
  exact h
theorem bX11_readSide_2 {C : Nat → List Vv → Sg → Rs → Sg → Prop} {X : Nat → List Vv → List Vv → Sg → Prop} {Xr : List Vv → Sg → Prop} {Xt : Nat → Sg → Prop} (hC : Clo C 11 cX11_readSide none X Xr Xt) {x1 x2 : Int} {σ : Sg} (h : if x2 < 8 then ((0 ≤ (w32 (x1 + x2)) ∧ (w32 (x1 + x2)) < 181) ∧ (X 2 [rV 20 66, iV x1, iV (w32 (x2 + 1))] [] (upS σ 68 ((w32 (x1 + x2))).toNat 0))) else (∃ v1 : Int, C MX11_isNumber [rV 20 66] σ (.inl [iV v1]) σ ∧ (if v1 = 0 then (∃ σ2 : Sg, C MX11_blames [rV 20 66, iV 2] σ (.inl []) σ2 ∧ (X 35 [rV 20 66, iV x1, iV x2] [] σ2)) else (X 35 [rV 20 66, iV x1, iV x2] [] σ)))) : X 2 [rV 20 66, iV x1, iV x2] [] σ := by
  refine st_iload_n (pc := 2) hC dX11_readSide_2 rfl ?_
  refine st_bipush (pc := 3) hC dX11_readSide_3 (by decide) ?_
  refine st_icmp_ge (tg := 23) (pc := 5) hC dX11_readSide_5 (by decide) (ite_im h (fun h => ?_) (fun h => ?_))
  · refine st_aload_n (pc := 8) hC dX11_readSide_8 rfl (by decide) (by decide) ?_
    refine st_getf (ci := 10) (f := 1) (v := rV 1000181 68) (pc := 9) hC dX11_readSide_9 fl_11_13 rfl rfl ?_
    refine st_iload_n (pc := 12) hC dX11_readSide_12 rfl ?_
    refine st_iload_n (pc := 13) hC dX11_readSide_13 rfl ?_
    refine st_iadd (pc := 14) hC dX11_readSide_14 ?_
    refine st_iconst (pc := 15) hC dX11_readSide_15 (by decide) ?_
    obtain ⟨hb, h⟩ := h
    refine st_iast (n := 181) (pc := 16) hC dX11_readSide_16 (by decide) hb ?_
    refine st_iinc (L2 := [rV 20 66, iV x1, iV (w32 (x2 + 1))]) (pc := 17) hC dX11_readSide_17 rfl (Nat.le_of_ble_eq_true rfl) rfl ?_
    refine st_goto (tg := 2) (pc := 20) hC dX11_readSide_20 (by decide) ?_
    exact h
  · refine st_aload_n (pc := 23) hC dX11_readSide_23 rfl (by decide) (by decide) ?_
    obtain ⟨v1, hq, h⟩ := h
    refine st_invV (As := []) (v := [iV v1]) (S := []) (pc := 24) hC dX11_readSide_24 cl_11_125 rfl rfl (Nat.le_of_ble_eq_true rfl) cr_X11_isNumber hq ?_
    refine st_if_ne (tg := 35) (pc := 27) hC dX11_readSide_27 (by decide) (ite_im h (fun h => ?_) (fun h => ?_))
    · refine st_aload_n (pc := 30) hC dX11_readSide_30 rfl (by decide) (by decide) ?_
      refine st_iconst (pc := 31) hC dX11_readSide_31 (by decide) ?_
      obtain ⟨σ2, hq, h⟩ := h
      refine st_invV (As := [iV 2]) (v := []) (S := []) (pc := 32) hC dX11_readSide_32 cl_11_121 rfl rfl (Nat.le_of_ble_eq_true rfl) cr_X11_blames hq ?_
      exact h
    · exact h
theorem bX11_readSide_35 {C : Nat → List Vv → Sg → Rs → Sg → Prop} {X : Nat → List Vv → List Vv → Sg → Prop} {Xr : List Vv → Sg → Prop} {Xt : Nat → Sg → Prop} (hC : Clo C 11 cX11_readSide none X Xr Xt) {x1 x2 : Int} {σ : Sg} (h : ∃ v1 : Int, C MX11_isNumber [rV 20 66] σ (.inl [iV v1]) σ ∧ (if v1 = 0 then (Xr [] σ) else (∃ v2 : Int, C MX11_coinOf [rV 1000181 68, lV (σ 66 12)] σ (.inl [iV v2]) σ ∧ (if v2 = (-1) then (∃ σ3 : Sg, C MX11_blames [rV 20 66, iV 3] σ (.inl []) σ3 ∧ (∃ v4 : Int, C MX11_inPurse [rV 20 66, iV x1] σ3 (.inl [iV v4]) σ3 ∧ (if v4 = 3 then (∃ σ5 : Sg, C MX11_blames [rV 20 66, iV 4] σ3 (.inl []) σ5 ∧ (if (σ5 66 13) = 0 then ((0 ≤ (w32 (x1 + v2)) ∧ (w32 (x1 + v2)) < 181) ∧ ((0 ≤ (w32 (x1 + v2)) ∧ (w32 (x1 + v2)) < 181) ∧ (∃ σ6 : Sg, C MX11_reads [rV 20 66] (upS σ5 68 ((w32 (x1 + v2))).toNat (w32 ((σ5 68 ((w32 (x1 + v2))).toNat) + 1))) (.inl []) σ6 ∧ (X 35 [rV 20 66, iV x1, iV v2] [] σ6)))) else (Xr [] σ5))) else (if (σ3 66 13) = 0 then ((0 ≤ (w32 (x1 + v2)) ∧ (w32 (x1 + v2)) < 181) ∧ ((0 ≤ (w32 (x1 + v2)) ∧ (w32 (x1 + v2)) < 181) ∧ (∃ σ7 : Sg, C MX11_reads [rV 20 66] (upS σ3 68 ((w32 (x1 + v2))).toNat (w32 ((σ3 68 ((w32 (x1 + v2))).toNat) + 1))) (.inl []) σ7 ∧ (X 35 [rV 20 66, iV x1, iV v2] [] σ7)))) else (Xr [] σ3))))) else (∃ v8 : Int, C MX11_inPurse [rV 20 66, iV x1] σ (.inl [iV v8]) σ ∧ (if v8 = 3 then (∃ σ9 : Sg, C MX11_blames [rV 20 66, iV 4] σ (.inl []) σ9 ∧ (if (σ9 66 13) = 0 then ((0 ≤ (w32 (x1 + v2)) ∧ (w32 (x1 + v2)) < 181) ∧ ((0 ≤ (w32 (x1 + v2)) ∧ (w32 (x1 + v2)) < 181) ∧ (∃ σ10 : Sg, C MX11_reads [rV 20 66] (upS σ9 68 ((w32 (x1 + v2))).toNat (w32 ((σ9 68 ((w32 (x1 + v2))).toNat) + 1))) (.inl []) σ10 ∧ (X 35 [rV 20 66, iV x1, iV v2] [] σ10)))) else (Xr [] σ9))) else (if (σ 66 13) = 0 then ((0 ≤ (w32 (x1 + v2)) ∧ (w32 (x1 + v2)) < 181) ∧ ((0 ≤ (w32 (x1 + v2)) ∧ (w32 (x1 + v2)) < 181) ∧ (∃ σ11 : Sg, C MX11_reads [rV 20 66] (upS σ 68 ((w32 (x1 + v2))).toNat (w32 ((σ 68 ((w32 (x1 + v2))).toNat) + 1))) (.inl []) σ11 ∧ (X 35 [rV 20 66, iV x1, iV v2] [] σ11)))) else (Xr [] σ)))))))) : X 35 [rV 20 66, iV x1, iV x2] [] σ := by
  refine st_aload_n (pc := 35) hC dX11_readSide_35 rfl (by decide) (by decide) ?_
  obtain ⟨v1, hq, h⟩ := h
  refine st_invV (As := []) (v := [iV v1]) (S := []) (pc := 36) hC dX11_readSide_36 cl_11_125 rfl rfl (Nat.le_of_ble_eq_true rfl) cr_X11_isNumber hq ?_
  refine st_if_eq (tg := 106) (pc := 39) hC dX11_readSide_39 (by decide) (ite_im h (fun h => ?_) (fun h => ?_))
  · exact st_return (pc := 106) hC dX11_readSide_106 h
  · refine st_aload_n (pc := 42) hC dX11_readSide_42 rfl (by decide) (by decide) ?_
    refine st_getf (ci := 10) (f := 1) (v := rV 1000181 68) (pc := 43) hC dX11_readSide_43 fl_11_13 rfl rfl ?_
    refine st_aload_n (pc := 46) hC dX11_readSide_46 rfl (by decide) (by decide) ?_
    refine st_getf (ci := 10) (f := 12) (v := iV (σ 66 12)) (pc := 47) hC dX11_readSide_47 fl_11_93 rfl rfl ?_
    refine st_i2l (pc := 50) hC dX11_readSide_50 ?_
    obtain ⟨v2, hq, h⟩ := h
    refine st_invS (As := [rV 1000181 68, lV (σ 66 12)]) (v := [iV v2]) (S := []) (pc := 51) hC dX11_readSide_51 cl_11_140 rfl rfl (Nat.le_of_ble_eq_true rfl) hq ?_
    refine st_istore_n (L2 := [rV 20 66, iV x1, iV v2]) (pc := 54) hC dX11_readSide_54 (Nat.le_of_ble_eq_true rfl) rfl ?_
    refine st_iload_n (pc := 55) hC dX11_readSide_55 rfl ?_
    refine st_iconst (pc := 56) hC dX11_readSide_56 (by decide) ?_
    refine st_icmp_ne (tg := 65) (pc := 57) hC dX11_readSide_57 (by decide) (ite_im h (fun h => ?_) (fun h => ?_))
    · refine st_aload_n (pc := 60) hC dX11_readSide_60 rfl (by decide) (by decide) ?_
      refine st_iconst (pc := 61) hC dX11_readSide_61 (by decide) ?_
      obtain ⟨σ3, hq, h⟩ := h
      refine st_invV (As := [iV 3]) (v := []) (S := []) (pc := 62) hC dX11_readSide_62 cl_11_121 rfl rfl (Nat.le_of_ble_eq_true rfl) cr_X11_blames hq ?_
      refine st_aload_n (pc := 65) hC dX11_readSide_65 rfl (by decide) (by decide) ?_
      refine st_iload_n (pc := 66) hC dX11_readSide_66 rfl ?_
      obtain ⟨v4, hq, h⟩ := h
      refine st_invV (As := [iV x1]) (v := [iV v4]) (S := []) (pc := 67) hC dX11_readSide_67 cl_11_153 rfl rfl (Nat.le_of_ble_eq_true rfl) cr_X11_inPurse hq ?_
      refine st_iconst (pc := 70) hC dX11_readSide_70 (by decide) ?_
      refine st_icmp_ne (tg := 79) (pc := 71) hC dX11_readSide_71 (by decide) (ite_im h (fun h => ?_) (fun h => ?_))
      · refine st_aload_n (pc := 74) hC dX11_readSide_74 rfl (by decide) (by decide) ?_
        refine st_iconst (pc := 75) hC dX11_readSide_75 (by decide) ?_
        obtain ⟨σ5, hq, h⟩ := h
        refine st_invV (As := [iV 4]) (v := []) (S := []) (pc := 76) hC dX11_readSide_76 cl_11_121 rfl rfl (Nat.le_of_ble_eq_true rfl) cr_X11_blames hq ?_
        refine st_aload_n (pc := 79) hC dX11_readSide_79 rfl (by decide) (by decide) ?_
        refine st_getf (ci := 10) (f := 13) (v := iV (σ5 66 13)) (pc := 80) hC dX11_readSide_80 fl_11_96 rfl rfl ?_
        refine st_if_eq (tg := 87) (pc := 83) hC dX11_readSide_83 (by decide) (ite_im h (fun h => ?_) (fun h => ?_))
        · refine st_aload_n (pc := 87) hC dX11_readSide_87 rfl (by decide) (by decide) ?_
          refine st_getf (ci := 10) (f := 1) (v := rV 1000181 68) (pc := 88) hC dX11_readSide_88 fl_11_13 rfl rfl ?_
          refine st_iload_n (pc := 91) hC dX11_readSide_91 rfl ?_
          refine st_iload_n (pc := 92) hC dX11_readSide_92 rfl ?_
          refine st_iadd (pc := 93) hC dX11_readSide_93 ?_
          refine st_dup2IR (pc := 94) hC dX11_readSide_94 (by decide) (by decide) ?_
          obtain ⟨hb, h⟩ := h
          refine st_iald (n := 181) (pc := 95) hC dX11_readSide_95 (by decide) hb ?_
          refine st_iconst (pc := 96) hC dX11_readSide_96 (by decide) ?_
          refine st_iadd (pc := 97) hC dX11_readSide_97 ?_
          obtain ⟨hb, h⟩ := h
          refine st_iast (n := 181) (pc := 98) hC dX11_readSide_98 (by decide) hb ?_
          refine st_aload_n (pc := 99) hC dX11_readSide_99 rfl (by decide) (by decide) ?_
          obtain ⟨σ6, hq, h⟩ := h
          refine st_invV (As := []) (v := []) (S := []) (pc := 100) hC dX11_readSide_100 cl_11_115 rfl rfl (Nat.le_of_ble_eq_true rfl) cr_X11_reads hq ?_
          refine st_goto (tg := 35) (pc := 103) hC dX11_readSide_103 (by decide) ?_
          exact h
        · exact st_return (pc := 86) hC dX11_readSide_86 h
      · refine st_aload_n (pc := 79) hC dX11_readSide_79 rfl (by decide) (by decide) ?_
        refine st_getf (ci := 10) (f := 13) (v := iV (σ3 66 13)) (pc := 80) hC dX11_readSide_80 fl_11_96 rfl rfl ?_
        refine st_if_eq (tg := 87) (pc := 83) hC dX11_readSide_83 (by decide) (ite_im h (fun h => ?_) (fun h => ?_))
        · refine st_aload_n (pc := 87) hC dX11_readSide_87 rfl (by decide) (by decide) ?_
          refine st_getf (ci := 10) (f := 1) (v := rV 1000181 68) (pc := 88) hC dX11_readSide_88 fl_11_13 rfl rfl ?_
          refine st_iload_n (pc := 91) hC dX11_readSide_91 rfl ?_
          refine st_iload_n (pc := 92) hC dX11_readSide_92 rfl ?_
          refine st_iadd (pc := 93) hC dX11_readSide_93 ?_
          refine st_dup2IR (pc := 94) hC dX11_readSide_94 (by decide) (by decide) ?_
          obtain ⟨hb, h⟩ := h
          refine st_iald (n := 181) (pc := 95) hC dX11_readSide_95 (by decide) hb ?_
          refine st_iconst (pc := 96) hC dX11_readSide_96 (by decide) ?_
          refine st_iadd (pc := 97) hC dX11_readSide_97 ?_
          obtain ⟨hb, h⟩ := h
          refine st_iast (n := 181) (pc := 98) hC dX11_readSide_98 (by decide) hb ?_
          refine st_aload_n (pc := 99) hC dX11_readSide_99 rfl (by decide) (by decide) ?_
          obtain ⟨σ7, hq, h⟩ := h
          refine st_invV (As := []) (v := []) (S := []) (pc := 100) hC dX11_readSide_100 cl_11_115 rfl rfl (Nat.le_of_ble_eq_true rfl) cr_X11_reads hq ?_
          refine st_goto (tg := 35) (pc := 103) hC dX11_readSide_103 (by decide) ?_
          exact h
        · exact st_return (pc := 86) hC dX11_readSide_86 h
    · refine st_aload_n (pc := 65) hC dX11_readSide_65 rfl (by decide) (by decide) ?_
      refine st_iload_n (pc := 66) hC dX11_readSide_66 rfl ?_
      obtain ⟨v8, hq, h⟩ := h
      refine st_invV (As := [iV x1]) (v := [iV v8]) (S := []) (pc := 67) hC dX11_readSide_67 cl_11_153 rfl rfl (Nat.le_of_ble_eq_true rfl) cr_X11_inPurse hq ?_
      refine st_iconst (pc := 70) hC dX11_readSide_70 (by decide) ?_
      refine st_icmp_ne (tg := 79) (pc := 71) hC dX11_readSide_71 (by decide) (ite_im h (fun h => ?_) (fun h => ?_))
      · refine st_aload_n (pc := 74) hC dX11_readSide_74 rfl (by decide) (by decide) ?_
        refine st_iconst (pc := 75) hC dX11_readSide_75 (by decide) ?_
        obtain ⟨σ9, hq, h⟩ := h
        refine st_invV (As := [iV 4]) (v := []) (S := []) (pc := 76) hC dX11_readSide_76 cl_11_121 rfl rfl (Nat.le_of_ble_eq_true rfl) cr_X11_blames hq ?_
        refine st_aload_n (pc := 79) hC dX11_readSide_79 rfl (by decide) (by decide) ?_
        refine st_getf (ci := 10) (f := 13) (v := iV (σ9 66 13)) (pc := 80) hC dX11_readSide_80 fl_11_96 rfl rfl ?_
        refine st_if_eq (tg := 87) (pc := 83) hC dX11_readSide_83 (by decide) (ite_im h (fun h => ?_) (fun h => ?_))
        · refine st_aload_n (pc := 87) hC dX11_readSide_87 rfl (by decide) (by decide) ?_
          refine st_getf (ci := 10) (f := 1) (v := rV 1000181 68) (pc := 88) hC dX11_readSide_88 fl_11_13 rfl rfl ?_
          refine st_iload_n (pc := 91) hC dX11_readSide_91 rfl ?_
          refine st_iload_n (pc := 92) hC dX11_readSide_92 rfl ?_
          refine st_iadd (pc := 93) hC dX11_readSide_93 ?_
          refine st_dup2IR (pc := 94) hC dX11_readSide_94 (by decide) (by decide) ?_
          obtain ⟨hb, h⟩ := h
          refine st_iald (n := 181) (pc := 95) hC dX11_readSide_95 (by decide) hb ?_
          refine st_iconst (pc := 96) hC dX11_readSide_96 (by decide) ?_
          refine st_iadd (pc := 97) hC dX11_readSide_97 ?_
          obtain ⟨hb, h⟩ := h
          refine st_iast (n := 181) (pc := 98) hC dX11_readSide_98 (by decide) hb ?_
          refine st_aload_n (pc := 99) hC dX11_readSide_99 rfl (by decide) (by decide) ?_
          obtain ⟨σ10, hq, h⟩ := h
          refine st_invV (As := []) (v := []) (S := []) (pc := 100) hC dX11_readSide_100 cl_11_115 rfl rfl (Nat.le_of_ble_eq_true rfl) cr_X11_reads hq ?_
          refine st_goto (tg := 35) (pc := 103) hC dX11_readSide_103 (by decide) ?_
          exact h
        · exact st_return (pc := 86) hC dX11_readSide_86 h
      · refine st_aload_n (pc := 79) hC dX11_readSide_79 rfl (by decide) (by decide) ?_
        refine st_getf (ci := 10) (f := 13) (v := iV (σ 66 13)) (pc := 80) hC dX11_readSide_80 fl_11_96 rfl rfl ?_
        refine st_if_eq (tg := 87) (pc := 83) hC dX11_readSide_83 (by decide) (ite_im h (fun h => ?_) (fun h => ?_))
        · refine st_aload_n (pc := 87) hC dX11_readSide_87 rfl (by decide) (by decide) ?_
          refine st_getf (ci := 10) (f := 1) (v := rV 1000181 68) (pc := 88) hC dX11_readSide_88 fl_11_13 rfl rfl ?_
          refine st_iload_n (pc := 91) hC dX11_readSide_91 rfl ?_
          refine st_iload_n (pc := 92) hC dX11_readSide_92 rfl ?_
          refine st_iadd (pc := 93) hC dX11_readSide_93 ?_
          refine st_dup2IR (pc := 94) hC dX11_readSide_94 (by decide) (by decide) ?_
          obtain ⟨hb, h⟩ := h
          refine st_iald (n := 181) (pc := 95) hC dX11_readSide_95 (by decide) hb ?_
          refine st_iconst (pc := 96) hC dX11_readSide_96 (by decide) ?_
          refine st_iadd (pc := 97) hC dX11_readSide_97 ?_
          obtain ⟨hb, h⟩ := h
          refine st_iast (n := 181) (pc := 98) hC dX11_readSide_98 (by decide) hb ?_
          refine st_aload_n (pc := 99) hC dX11_readSide_99 rfl (by decide) (by decide) ?_
          obtain ⟨σ11, hq, h⟩ := h
          refine st_invV (As := []) (v := []) (S := []) (pc := 100) hC dX11_readSide_100 cl_11_115 rfl rfl (Nat.le_of_ble_eq_true rfl) cr_X11_reads hq ?_
          refine st_goto (tg := 35) (pc := 103) hC dX11_readSide_103 (by decide) ?_
          exact h
        · exact st_return (pc := 86) hC dX11_readSide_86 h
theorem bX11_readChange_0 {C : Nat → List Vv → Sg → Rs → Sg → Prop} {X : Nat → List Vv → List Vv → Sg → Prop} {Xr : List Vv → Sg → Prop} {Xt : Nat → Sg → Prop} (hC : Clo C 11 cX11_readChange none X Xr Xt) {σ : Sg} (h : if (σ 68 3) = 6 then (∃ σ1 : Sg, C MX11_blames [rV 20 66, iV 4] σ (.inl []) σ1 ∧ (if (σ1 66 13) = 0 then (∃ σ2 : Sg, C MX11_reads [rV 20 66] σ1 (.inl []) σ2 ∧ (∃ σ3 : Sg, C MX11_readSide [rV 20 66, iV (w32 (52 + (w32 (16 * (σ2 68 3)))))] σ2 (.inl []) σ3 ∧ (∃ σ4 : Sg, C MX11_must [rV 20 66, rV 30 1007] σ3 (.inl []) σ4 ∧ (if (σ4 66 13) = 0 then (∃ σ5 : Sg, C MX11_readSide [rV 20 66, iV (w32 ((w32 (52 + (w32 (16 * (σ2 68 3))))) + 8))] σ4 (.inl []) σ5 ∧ (if (σ5 66 13) = 0 then (Xr [] (upS σ5 68 3 (w32 ((σ5 68 3) + 1)))) else (Xr [] σ5))) else (if (σ4 66 13) = 0 then (Xr [] (upS σ4 68 3 (w32 ((σ4 68 3) + 1)))) else (Xr [] σ4)))))) else (Xr [] σ1))) else (if (σ 66 13) = 0 then (∃ σ6 : Sg, C MX11_reads [rV 20 66] σ (.inl []) σ6 ∧ (∃ σ7 : Sg, C MX11_readSide [rV 20 66, iV (w32 (52 + (w32 (16 * (σ6 68 3)))))] σ6 (.inl []) σ7 ∧ (∃ σ8 : Sg, C MX11_must [rV 20 66, rV 30 1007] σ7 (.inl []) σ8 ∧ (if (σ8 66 13) = 0 then (∃ σ9 : Sg, C MX11_readSide [rV 20 66, iV (w32 ((w32 (52 + (w32 (16 * (σ6 68 3))))) + 8))] σ8 (.inl []) σ9 ∧ (if (σ9 66 13) = 0 then (Xr [] (upS σ9 68 3 (w32 ((σ9 68 3) + 1)))) else (Xr [] σ9))) else (if (σ8 66 13) = 0 then (Xr [] (upS σ8 68 3 (w32 ((σ8 68 3) + 1)))) else (Xr [] σ8)))))) else (Xr [] σ))) : X 0 [rV 20 66, uV] [] σ := by
  refine st_aload_n (pc := 0) hC dX11_readChange_0 rfl (by decide) (by decide) ?_
  refine st_getf (ci := 10) (f := 1) (v := rV 1000181 68) (pc := 1) hC dX11_readChange_1 fl_11_13 rfl rfl ?_
  refine st_iconst (pc := 4) hC dX11_readChange_4 (by decide) ?_
  refine st_iald (n := 181) (pc := 5) hC dX11_readChange_5 (by decide) ⟨by decide, by decide⟩ ?_
  refine st_bipush (pc := 6) hC dX11_readChange_6 (by decide) ?_
  refine st_icmp_ne (tg := 16) (pc := 8) hC dX11_readChange_8 (by decide) (ite_im h (fun h => ?_) (fun h => ?_))
  · refine st_aload_n (pc := 11) hC dX11_readChange_11 rfl (by decide) (by decide) ?_
    refine st_iconst (pc := 12) hC dX11_readChange_12 (by decide) ?_
    obtain ⟨σ1, hq, h⟩ := h
    refine st_invV (As := [iV 4]) (v := []) (S := []) (pc := 13) hC dX11_readChange_13 cl_11_121 rfl rfl (Nat.le_of_ble_eq_true rfl) cr_X11_blames hq ?_
    refine st_aload_n (pc := 16) hC dX11_readChange_16 rfl (by decide) (by decide) ?_
    refine st_getf (ci := 10) (f := 13) (v := iV (σ1 66 13)) (pc := 17) hC dX11_readChange_17 fl_11_96 rfl rfl ?_
    refine st_if_eq (tg := 24) (pc := 20) hC dX11_readChange_20 (by decide) (ite_im h (fun h => ?_) (fun h => ?_))
    · refine st_aload_n (pc := 24) hC dX11_readChange_24 rfl (by decide) (by decide) ?_
      obtain ⟨σ2, hq, h⟩ := h
      refine st_invV (As := []) (v := []) (S := []) (pc := 25) hC dX11_readChange_25 cl_11_115 rfl rfl (Nat.le_of_ble_eq_true rfl) cr_X11_reads hq ?_
      refine st_bipush (pc := 28) hC dX11_readChange_28 (by decide) ?_
      refine st_bipush (pc := 30) hC dX11_readChange_30 (by decide) ?_
      refine st_aload_n (pc := 32) hC dX11_readChange_32 rfl (by decide) (by decide) ?_
      refine st_getf (ci := 10) (f := 1) (v := rV 1000181 68) (pc := 33) hC dX11_readChange_33 fl_11_13 rfl rfl ?_
      refine st_iconst (pc := 36) hC dX11_readChange_36 (by decide) ?_
      refine st_iald (n := 181) (pc := 37) hC dX11_readChange_37 (by decide) ⟨by decide, by decide⟩ ?_
      refine st_imul (pc := 38) hC dX11_readChange_38 ?_
      refine st_iadd (pc := 39) hC dX11_readChange_39 ?_
      refine st_istore_n (L2 := [rV 20 66, iV (w32 (52 + (w32 (16 * (σ2 68 3)))))]) (pc := 40) hC dX11_readChange_40 (Nat.le_of_ble_eq_true rfl) rfl ?_
      refine st_aload_n (pc := 41) hC dX11_readChange_41 rfl (by decide) (by decide) ?_
      refine st_iload_n (pc := 42) hC dX11_readChange_42 rfl ?_
      obtain ⟨σ3, hq, h⟩ := h
      refine st_invV (As := [iV (w32 (52 + (w32 (16 * (σ2 68 3)))))]) (v := []) (S := []) (pc := 43) hC dX11_readChange_43 cl_11_160 rfl rfl (Nat.le_of_ble_eq_true rfl) cr_X11_readSide hq ?_
      refine st_aload_n (pc := 46) hC dX11_readChange_46 rfl (by decide) (by decide) ?_
      refine st_ldcS (j := 7) (pc := 47) hC dX11_readChange_47 rfl ?_
      obtain ⟨σ4, hq, h⟩ := h
      refine st_invV (As := [rV 30 1007]) (v := []) (S := []) (pc := 49) hC dX11_readChange_49 cl_11_146 rfl rfl (Nat.le_of_ble_eq_true rfl) cr_X11_must hq ?_
      refine st_aload_n (pc := 52) hC dX11_readChange_52 rfl (by decide) (by decide) ?_
      refine st_getf (ci := 10) (f := 13) (v := iV (σ4 66 13)) (pc := 53) hC dX11_readChange_53 fl_11_96 rfl rfl ?_
      refine st_if_ne (tg := 67) (pc := 56) hC dX11_readChange_56 (by decide) (ite_im h (fun h => ?_) (fun h => ?_))
      · refine st_aload_n (pc := 59) hC dX11_readChange_59 rfl (by decide) (by decide) ?_
        refine st_iload_n (pc := 60) hC dX11_readChange_60 rfl ?_
        refine st_bipush (pc := 61) hC dX11_readChange_61 (by decide) ?_
        refine st_iadd (pc := 63) hC dX11_readChange_63 ?_
        obtain ⟨σ5, hq, h⟩ := h
        refine st_invV (As := [iV (w32 ((w32 (52 + (w32 (16 * (σ2 68 3))))) + 8))]) (v := []) (S := []) (pc := 64) hC dX11_readChange_64 cl_11_160 rfl rfl (Nat.le_of_ble_eq_true rfl) cr_X11_readSide hq ?_
        refine st_aload_n (pc := 67) hC dX11_readChange_67 rfl (by decide) (by decide) ?_
        refine st_getf (ci := 10) (f := 13) (v := iV (σ5 66 13)) (pc := 68) hC dX11_readChange_68 fl_11_96 rfl rfl ?_
        refine st_if_ne (tg := 84) (pc := 71) hC dX11_readChange_71 (by decide) (ite_im h (fun h => ?_) (fun h => ?_))
        · refine st_aload_n (pc := 74) hC dX11_readChange_74 rfl (by decide) (by decide) ?_
          refine st_getf (ci := 10) (f := 1) (v := rV 1000181 68) (pc := 75) hC dX11_readChange_75 fl_11_13 rfl rfl ?_
          refine st_iconst (pc := 78) hC dX11_readChange_78 (by decide) ?_
          refine st_dup2IR (pc := 79) hC dX11_readChange_79 (by decide) (by decide) ?_
          refine st_iald (n := 181) (pc := 80) hC dX11_readChange_80 (by decide) ⟨by decide, by decide⟩ ?_
          refine st_iconst (pc := 81) hC dX11_readChange_81 (by decide) ?_
          refine st_iadd (pc := 82) hC dX11_readChange_82 ?_
          refine st_iast (n := 181) (pc := 83) hC dX11_readChange_83 (by decide) ⟨by decide, by decide⟩ ?_
          exact st_return (pc := 84) hC dX11_readChange_84 h
        · exact st_return (pc := 84) hC dX11_readChange_84 h
      · refine st_aload_n (pc := 67) hC dX11_readChange_67 rfl (by decide) (by decide) ?_
        refine st_getf (ci := 10) (f := 13) (v := iV (σ4 66 13)) (pc := 68) hC dX11_readChange_68 fl_11_96 rfl rfl ?_
        refine st_if_ne (tg := 84) (pc := 71) hC dX11_readChange_71 (by decide) (ite_im h (fun h => ?_) (fun h => ?_))
        · refine st_aload_n (pc := 74) hC dX11_readChange_74 rfl (by decide) (by decide) ?_
          refine st_getf (ci := 10) (f := 1) (v := rV 1000181 68) (pc := 75) hC dX11_readChange_75 fl_11_13 rfl rfl ?_
          refine st_iconst (pc := 78) hC dX11_readChange_78 (by decide) ?_
          refine st_dup2IR (pc := 79) hC dX11_readChange_79 (by decide) (by decide) ?_
          refine st_iald (n := 181) (pc := 80) hC dX11_readChange_80 (by decide) ⟨by decide, by decide⟩ ?_
          refine st_iconst (pc := 81) hC dX11_readChange_81 (by decide) ?_
          refine st_iadd (pc := 82) hC dX11_readChange_82 ?_
          refine st_iast (n := 181) (pc := 83) hC dX11_readChange_83 (by decide) ⟨by decide, by decide⟩ ?_
          exact st_return (pc := 84) hC dX11_readChange_84 h
        · exact st_return (pc := 84) hC dX11_readChange_84 h
    · exact st_return (pc := 23) hC dX11_readChange_23 h
  · refine st_aload_n (pc := 16) hC dX11_readChange_16 rfl (by decide) (by decide) ?_
    refine st_getf (ci := 10) (f := 13) (v := iV (σ 66 13)) (pc := 17) hC dX11_readChange_17 fl_11_96 rfl rfl ?_
    refine st_if_eq (tg := 24) (pc := 20) hC dX11_readChange_20 (by decide) (ite_im h (fun h => ?_) (fun h => ?_))
    · refine st_aload_n (pc := 24) hC dX11_readChange_24 rfl (by decide) (by decide) ?_
      obtain ⟨σ6, hq, h⟩ := h
      refine st_invV (As := []) (v := []) (S := []) (pc := 25) hC dX11_readChange_25 cl_11_115 rfl rfl (Nat.le_of_ble_eq_true rfl) cr_X11_reads hq ?_
      refine st_bipush (pc := 28) hC dX11_readChange_28 (by decide) ?_
      refine st_bipush (pc := 30) hC dX11_readChange_30 (by decide) ?_
      refine st_aload_n (pc := 32) hC dX11_readChange_32 rfl (by decide) (by decide) ?_
      refine st_getf (ci := 10) (f := 1) (v := rV 1000181 68) (pc := 33) hC dX11_readChange_33 fl_11_13 rfl rfl ?_
      refine st_iconst (pc := 36) hC dX11_readChange_36 (by decide) ?_
      refine st_iald (n := 181) (pc := 37) hC dX11_readChange_37 (by decide) ⟨by decide, by decide⟩ ?_
      refine st_imul (pc := 38) hC dX11_readChange_38 ?_
      refine st_iadd (pc := 39) hC dX11_readChange_39 ?_
      refine st_istore_n (L2 := [rV 20 66, iV (w32 (52 + (w32 (16 * (σ6 68 3)))))]) (pc := 40) hC dX11_readChange_40 (Nat.le_of_ble_eq_true rfl) rfl ?_
      refine st_aload_n (pc := 41) hC dX11_readChange_41 rfl (by decide) (by decide) ?_
      refine st_iload_n (pc := 42) hC dX11_readChange_42 rfl ?_
      obtain ⟨σ7, hq, h⟩ := h
      refine st_invV (As := [iV (w32 (52 + (w32 (16 * (σ6 68 3)))))]) (v := []) (S := []) (pc := 43) hC dX11_readChange_43 cl_11_160 rfl rfl (Nat.le_of_ble_eq_true rfl) cr_X11_readSide hq ?_
      refine st_aload_n (pc := 46) hC dX11_readChange_46 rfl (by decide) (by decide) ?_
      refine st_ldcS (j := 7) (pc := 47) hC dX11_readChange_47 rfl ?_
      obtain ⟨σ8, hq, h⟩ := h
      refine st_invV (As := [rV 30 1007]) (v := []) (S := []) (pc := 49) hC dX11_readChange_49 cl_11_146 rfl rfl (Nat.le_of_ble_eq_true rfl) cr_X11_must hq ?_
      refine st_aload_n (pc := 52) hC dX11_readChange_52 rfl (by decide) (by decide) ?_
      refine st_getf (ci := 10) (f := 13) (v := iV (σ8 66 13)) (pc := 53) hC dX11_readChange_53 fl_11_96 rfl rfl ?_
      refine st_if_ne (tg := 67) (pc := 56) hC dX11_readChange_56 (by decide) (ite_im h (fun h => ?_) (fun h => ?_))
      · refine st_aload_n (pc := 59) hC dX11_readChange_59 rfl (by decide) (by decide) ?_
        refine st_iload_n (pc := 60) hC dX11_readChange_60 rfl ?_
        refine st_bipush (pc := 61) hC dX11_readChange_61 (by decide) ?_
        refine st_iadd (pc := 63) hC dX11_readChange_63 ?_
        obtain ⟨σ9, hq, h⟩ := h
        refine st_invV (As := [iV (w32 ((w32 (52 + (w32 (16 * (σ6 68 3))))) + 8))]) (v := []) (S := []) (pc := 64) hC dX11_readChange_64 cl_11_160 rfl rfl (Nat.le_of_ble_eq_true rfl) cr_X11_readSide hq ?_
        refine st_aload_n (pc := 67) hC dX11_readChange_67 rfl (by decide) (by decide) ?_
        refine st_getf (ci := 10) (f := 13) (v := iV (σ9 66 13)) (pc := 68) hC dX11_readChange_68 fl_11_96 rfl rfl ?_
        refine st_if_ne (tg := 84) (pc := 71) hC dX11_readChange_71 (by decide) (ite_im h (fun h => ?_) (fun h => ?_))
        · refine st_aload_n (pc := 74) hC dX11_readChange_74 rfl (by decide) (by decide) ?_
          refine st_getf (ci := 10) (f := 1) (v := rV 1000181 68) (pc := 75) hC dX11_readChange_75 fl_11_13 rfl rfl ?_
          refine st_iconst (pc := 78) hC dX11_readChange_78 (by decide) ?_
          refine st_dup2IR (pc := 79) hC dX11_readChange_79 (by decide) (by decide) ?_
          refine st_iald (n := 181) (pc := 80) hC dX11_readChange_80 (by decide) ⟨by decide, by decide⟩ ?_
          refine st_iconst (pc := 81) hC dX11_readChange_81 (by decide) ?_
          refine st_iadd (pc := 82) hC dX11_readChange_82 ?_
          refine st_iast (n := 181) (pc := 83) hC dX11_readChange_83 (by decide) ⟨by decide, by decide⟩ ?_
          exact st_return (pc := 84) hC dX11_readChange_84 h
        · exact st_return (pc := 84) hC dX11_readChange_84 h
      · refine st_aload_n (pc := 67) hC dX11_readChange_67 rfl (by decide) (by decide) ?_
        refine st_getf (ci := 10) (f := 13) (v := iV (σ8 66 13)) (pc := 68) hC dX11_readChange_68 fl_11_96 rfl rfl ?_
        refine st_if_ne (tg := 84) (pc := 71) hC dX11_readChange_71 (by decide) (ite_im h (fun h => ?_) (fun h => ?_))
        · refine st_aload_n (pc := 74) hC dX11_readChange_74 rfl (by decide) (by decide) ?_
          refine st_getf (ci := 10) (f := 1) (v := rV 1000181 68) (pc := 75) hC dX11_readChange_75 fl_11_13 rfl rfl ?_
          refine st_iconst (pc := 78) hC dX11_readChange_78 (by decide) ?_
          refine st_dup2IR (pc := 79) hC dX11_readChange_79 (by decide) (by decide) ?_
          refine st_iald (n := 181) (pc := 80) hC dX11_readChange_80 (by decide) ⟨by decide, by decide⟩ ?_
          refine st_iconst (pc := 81) hC dX11_readChange_81 (by decide) ?_
          refine st_iadd (pc := 82) hC dX11_readChange_82 ?_
          refine st_iast (n := 181) (pc := 83) hC dX11_readChange_83 (by decide) ⟨by decide, by decide⟩ ?_
          exact st_return (pc := 84) hC dX11_readChange_84 h
        · exact st_return (pc := 84) hC dX11_readChange_84 h
    · exact st_return (pc := 23) hC dX11_readChange_23 h
theorem bX11_readStop_0 {C : Nat → List Vv → Sg → Rs → Sg → Prop} {X : Nat → List Vv → List Vv → Sg → Prop} {Xr : List Vv → Sg → Prop} {Xt : Nat → Sg → Prop} (hC : Clo C 11 cX11_readStop none X Xr Xt) {σ : Sg} (h : if (σ 66 11) = 3 then (if (σ 66 13) = 0 then (∃ σ1 : Sg, C MX11_reads [rV 20 66] σ (.inl []) σ1 ∧ (if (σ1 66 13) = 0 then (Xr [] (upS σ1 68 0 (w32 ((σ1 68 0) + 1)))) else (Xr [] σ1))) else (if (σ 66 13) = 0 then (Xr [] (upS σ 68 0 (w32 ((σ 68 0) + 1)))) else (Xr [] σ))) else (∃ σ2 : Sg, C MX11_blames [rV 20 66, iV 2] σ (.inl []) σ2 ∧ (if (σ2 66 13) = 0 then (∃ σ3 : Sg, C MX11_reads [rV 20 66] σ2 (.inl []) σ3 ∧ (if (σ3 66 13) = 0 then (Xr [] (upS σ3 68 0 (w32 ((σ3 68 0) + 1)))) else (Xr [] σ3))) else (if (σ2 66 13) = 0 then (Xr [] (upS σ2 68 0 (w32 ((σ2 68 0) + 1)))) else (Xr [] σ2))))) : X 0 [rV 20 66] [] σ := by
  refine st_aload_n (pc := 0) hC dX11_readStop_0 rfl (by decide) (by decide) ?_
  refine st_getf (ci := 10) (f := 11) (v := iV (σ 66 11)) (pc := 1) hC dX11_readStop_1 fl_11_79 rfl rfl ?_
  refine st_iconst (pc := 4) hC dX11_readStop_4 (by decide) ?_
  refine st_icmp_eq (tg := 13) (pc := 5) hC dX11_readStop_5 (by decide) (ite_im h (fun h => ?_) (fun h => ?_))
  · refine st_aload_n (pc := 13) hC dX11_readStop_13 rfl (by decide) (by decide) ?_
    refine st_getf (ci := 10) (f := 13) (v := iV (σ 66 13)) (pc := 14) hC dX11_readStop_14 fl_11_96 rfl rfl ?_
    refine st_if_ne (tg := 24) (pc := 17) hC dX11_readStop_17 (by decide) (ite_im h (fun h => ?_) (fun h => ?_))
    · refine st_aload_n (pc := 20) hC dX11_readStop_20 rfl (by decide) (by decide) ?_
      obtain ⟨σ1, hq, h⟩ := h
      refine st_invV (As := []) (v := []) (S := []) (pc := 21) hC dX11_readStop_21 cl_11_115 rfl rfl (Nat.le_of_ble_eq_true rfl) cr_X11_reads hq ?_
      refine st_aload_n (pc := 24) hC dX11_readStop_24 rfl (by decide) (by decide) ?_
      refine st_getf (ci := 10) (f := 13) (v := iV (σ1 66 13)) (pc := 25) hC dX11_readStop_25 fl_11_96 rfl rfl ?_
      refine st_if_ne (tg := 41) (pc := 28) hC dX11_readStop_28 (by decide) (ite_im h (fun h => ?_) (fun h => ?_))
      · refine st_aload_n (pc := 31) hC dX11_readStop_31 rfl (by decide) (by decide) ?_
        refine st_getf (ci := 10) (f := 1) (v := rV 1000181 68) (pc := 32) hC dX11_readStop_32 fl_11_13 rfl rfl ?_
        refine st_iconst (pc := 35) hC dX11_readStop_35 (by decide) ?_
        refine st_dup2IR (pc := 36) hC dX11_readStop_36 (by decide) (by decide) ?_
        refine st_iald (n := 181) (pc := 37) hC dX11_readStop_37 (by decide) ⟨by decide, by decide⟩ ?_
        refine st_iconst (pc := 38) hC dX11_readStop_38 (by decide) ?_
        refine st_iadd (pc := 39) hC dX11_readStop_39 ?_
        refine st_iast (n := 181) (pc := 40) hC dX11_readStop_40 (by decide) ⟨by decide, by decide⟩ ?_
        exact st_return (pc := 41) hC dX11_readStop_41 h
      · exact st_return (pc := 41) hC dX11_readStop_41 h
    · refine st_aload_n (pc := 24) hC dX11_readStop_24 rfl (by decide) (by decide) ?_
      refine st_getf (ci := 10) (f := 13) (v := iV (σ 66 13)) (pc := 25) hC dX11_readStop_25 fl_11_96 rfl rfl ?_
      refine st_if_ne (tg := 41) (pc := 28) hC dX11_readStop_28 (by decide) (ite_im h (fun h => ?_) (fun h => ?_))
      · refine st_aload_n (pc := 31) hC dX11_readStop_31 rfl (by decide) (by decide) ?_
        refine st_getf (ci := 10) (f := 1) (v := rV 1000181 68) (pc := 32) hC dX11_readStop_32 fl_11_13 rfl rfl ?_
        refine st_iconst (pc := 35) hC dX11_readStop_35 (by decide) ?_
        refine st_dup2IR (pc := 36) hC dX11_readStop_36 (by decide) (by decide) ?_
        refine st_iald (n := 181) (pc := 37) hC dX11_readStop_37 (by decide) ⟨by decide, by decide⟩ ?_
        refine st_iconst (pc := 38) hC dX11_readStop_38 (by decide) ?_
        refine st_iadd (pc := 39) hC dX11_readStop_39 ?_
        refine st_iast (n := 181) (pc := 40) hC dX11_readStop_40 (by decide) ⟨by decide, by decide⟩ ?_
        exact st_return (pc := 41) hC dX11_readStop_41 h
      · exact st_return (pc := 41) hC dX11_readStop_41 h
  · refine st_aload_n (pc := 8) hC dX11_readStop_8 rfl (by decide) (by decide) ?_
    refine st_iconst (pc := 9) hC dX11_readStop_9 (by decide) ?_
    obtain ⟨σ2, hq, h⟩ := h
    refine st_invV (As := [iV 2]) (v := []) (S := []) (pc := 10) hC dX11_readStop_10 cl_11_121 rfl rfl (Nat.le_of_ble_eq_true rfl) cr_X11_blames hq ?_
    refine st_aload_n (pc := 13) hC dX11_readStop_13 rfl (by decide) (by decide) ?_
    refine st_getf (ci := 10) (f := 13) (v := iV (σ2 66 13)) (pc := 14) hC dX11_readStop_14 fl_11_96 rfl rfl ?_
    refine st_if_ne (tg := 24) (pc := 17) hC dX11_readStop_17 (by decide) (ite_im h (fun h => ?_) (fun h => ?_))
    · refine st_aload_n (pc := 20) hC dX11_readStop_20 rfl (by decide) (by decide) ?_
      obtain ⟨σ3, hq, h⟩ := h
      refine st_invV (As := []) (v := []) (S := []) (pc := 21) hC dX11_readStop_21 cl_11_115 rfl rfl (Nat.le_of_ble_eq_true rfl) cr_X11_reads hq ?_
      refine st_aload_n (pc := 24) hC dX11_readStop_24 rfl (by decide) (by decide) ?_
      refine st_getf (ci := 10) (f := 13) (v := iV (σ3 66 13)) (pc := 25) hC dX11_readStop_25 fl_11_96 rfl rfl ?_
      refine st_if_ne (tg := 41) (pc := 28) hC dX11_readStop_28 (by decide) (ite_im h (fun h => ?_) (fun h => ?_))
      · refine st_aload_n (pc := 31) hC dX11_readStop_31 rfl (by decide) (by decide) ?_
        refine st_getf (ci := 10) (f := 1) (v := rV 1000181 68) (pc := 32) hC dX11_readStop_32 fl_11_13 rfl rfl ?_
        refine st_iconst (pc := 35) hC dX11_readStop_35 (by decide) ?_
        refine st_dup2IR (pc := 36) hC dX11_readStop_36 (by decide) (by decide) ?_
        refine st_iald (n := 181) (pc := 37) hC dX11_readStop_37 (by decide) ⟨by decide, by decide⟩ ?_
        refine st_iconst (pc := 38) hC dX11_readStop_38 (by decide) ?_
        refine st_iadd (pc := 39) hC dX11_readStop_39 ?_
        refine st_iast (n := 181) (pc := 40) hC dX11_readStop_40 (by decide) ⟨by decide, by decide⟩ ?_
        exact st_return (pc := 41) hC dX11_readStop_41 h
      · exact st_return (pc := 41) hC dX11_readStop_41 h
    · refine st_aload_n (pc := 24) hC dX11_readStop_24 rfl (by decide) (by decide) ?_
      refine st_getf (ci := 10) (f := 13) (v := iV (σ2 66 13)) (pc := 25) hC dX11_readStop_25 fl_11_96 rfl rfl ?_
      refine st_if_ne (tg := 41) (pc := 28) hC dX11_readStop_28 (by decide) (ite_im h (fun h => ?_) (fun h => ?_))
      · refine st_aload_n (pc := 31) hC dX11_readStop_31 rfl (by decide) (by decide) ?_
        refine st_getf (ci := 10) (f := 1) (v := rV 1000181 68) (pc := 32) hC dX11_readStop_32 fl_11_13 rfl rfl ?_
        refine st_iconst (pc := 35) hC dX11_readStop_35 (by decide) ?_
        refine st_dup2IR (pc := 36) hC dX11_readStop_36 (by decide) (by decide) ?_
        refine st_iald (n := 181) (pc := 37) hC dX11_readStop_37 (by decide) ⟨by decide, by decide⟩ ?_
        refine st_iconst (pc := 38) hC dX11_readStop_38 (by decide) ?_
        refine st_iadd (pc := 39) hC dX11_readStop_39 ?_
        refine st_iast (n := 181) (pc := 40) hC dX11_readStop_40 (by decide) ⟨by decide, by decide⟩ ?_
        exact st_return (pc := 41) hC dX11_readStop_41 h
      · exact st_return (pc := 41) hC dX11_readStop_41 h
theorem bX11_readLine_0 {C : Nat → List Vv → Sg → Rs → Sg → Prop} {X : Nat → List Vv → List Vv → Sg → Prop} {Xr : List Vv → Sg → Prop} {Xt : Nat → Sg → Prop} (hC : Clo C 11 cX11_readLine none X Xr Xt) {σ : Sg} (h : ∃ v1 : Int, C MX11_isWord [rV 20 66, rV 30 1008] σ (.inl [iV v1]) σ ∧ (if v1 = 0 then (∃ v2 : Int, C MX11_isWord [rV 20 66, rV 30 1009] σ (.inl [iV v2]) σ ∧ (if v2 = 0 then (∃ σ3 : Sg, C MX11_blames [rV 20 66, iV 2] σ (.inl []) σ3 ∧ (∃ σ4 : Sg, C MX11_readStop [rV 20 66] σ3 (.inl []) σ4 ∧ (Xr [] σ4))) else (∃ σ5 : Sg, C MX11_readChange [rV 20 66] σ (.inl []) σ5 ∧ (∃ σ6 : Sg, C MX11_readStop [rV 20 66] σ5 (.inl []) σ6 ∧ (Xr [] σ6))))) else (∃ σ7 : Sg, C MX11_readPurse [rV 20 66] σ (.inl []) σ7 ∧ (∃ σ8 : Sg, C MX11_readStop [rV 20 66] σ7 (.inl []) σ8 ∧ (Xr [] σ8))))) : X 0 [rV 20 66] [] σ := by
  refine st_aload_n (pc := 0) hC dX11_readLine_0 rfl (by decide) (by decide) ?_
  refine st_ldcS (j := 8) (pc := 1) hC dX11_readLine_1 rfl ?_
  obtain ⟨v1, hq, h⟩ := h
  refine st_invV (As := [rV 30 1008]) (v := [iV v1]) (S := []) (pc := 3) hC dX11_readLine_3 cl_11_111 rfl rfl (Nat.le_of_ble_eq_true rfl) cr_X11_isWord hq ?_
  refine st_if_eq (tg := 16) (pc := 6) hC dX11_readLine_6 (by decide) (ite_im h (fun h => ?_) (fun h => ?_))
  · refine st_aload_n (pc := 16) hC dX11_readLine_16 rfl (by decide) (by decide) ?_
    refine st_ldcS (j := 9) (pc := 17) hC dX11_readLine_17 rfl ?_
    obtain ⟨v2, hq, h⟩ := h
    refine st_invV (As := [rV 30 1009]) (v := [iV v2]) (S := []) (pc := 19) hC dX11_readLine_19 cl_11_111 rfl rfl (Nat.le_of_ble_eq_true rfl) cr_X11_isWord hq ?_
    refine st_if_eq (tg := 32) (pc := 22) hC dX11_readLine_22 (by decide) (ite_im h (fun h => ?_) (fun h => ?_))
    · refine st_aload_n (pc := 32) hC dX11_readLine_32 rfl (by decide) (by decide) ?_
      refine st_iconst (pc := 33) hC dX11_readLine_33 (by decide) ?_
      obtain ⟨σ3, hq, h⟩ := h
      refine st_invV (As := [iV 2]) (v := []) (S := []) (pc := 34) hC dX11_readLine_34 cl_11_121 rfl rfl (Nat.le_of_ble_eq_true rfl) cr_X11_blames hq ?_
      refine st_aload_n (pc := 37) hC dX11_readLine_37 rfl (by decide) (by decide) ?_
      obtain ⟨σ4, hq, h⟩ := h
      refine st_invV (As := []) (v := []) (S := []) (pc := 38) hC dX11_readLine_38 cl_11_175 rfl rfl (Nat.le_of_ble_eq_true rfl) cr_X11_readStop hq ?_
      exact st_return (pc := 41) hC dX11_readLine_41 h
    · refine st_aload_n (pc := 25) hC dX11_readLine_25 rfl (by decide) (by decide) ?_
      obtain ⟨σ5, hq, h⟩ := h
      refine st_invV (As := []) (v := []) (S := []) (pc := 26) hC dX11_readLine_26 cl_11_172 rfl rfl (Nat.le_of_ble_eq_true rfl) cr_X11_readChange hq ?_
      refine st_goto (tg := 37) (pc := 29) hC dX11_readLine_29 (by decide) ?_
      refine st_aload_n (pc := 37) hC dX11_readLine_37 rfl (by decide) (by decide) ?_
      obtain ⟨σ6, hq, h⟩ := h
      refine st_invV (As := []) (v := []) (S := []) (pc := 38) hC dX11_readLine_38 cl_11_175 rfl rfl (Nat.le_of_ble_eq_true rfl) cr_X11_readStop hq ?_
      exact st_return (pc := 41) hC dX11_readLine_41 h
  · refine st_aload_n (pc := 9) hC dX11_readLine_9 rfl (by decide) (by decide) ?_
    obtain ⟨σ7, hq, h⟩ := h
    refine st_invV (As := []) (v := []) (S := []) (pc := 10) hC dX11_readLine_10 cl_11_167 rfl rfl (Nat.le_of_ble_eq_true rfl) cr_X11_readPurse hq ?_
    refine st_goto (tg := 37) (pc := 13) hC dX11_readLine_13 (by decide) ?_
    refine st_aload_n (pc := 37) hC dX11_readLine_37 rfl (by decide) (by decide) ?_
    obtain ⟨σ8, hq, h⟩ := h
    refine st_invV (As := []) (v := []) (S := []) (pc := 38) hC dX11_readLine_38 cl_11_175 rfl rfl (Nat.le_of_ble_eq_true rfl) cr_X11_readStop hq ?_
    exact st_return (pc := 41) hC dX11_readLine_41 h
theorem bX11_town_0 {C : Nat → List Vv → Sg → Rs → Sg → Prop} {X : Nat → List Vv → List Vv → Sg → Prop} {Xr : List Vv → Sg → Prop} {Xt : Nat → Sg → Prop} (hC : Clo C 11 cX11_town (some .int) X Xr Xt) {x1 : Int} {σ : Sg} (h : ∃ v1 : Int, C MX11_within [lV x1, lV 0, lV ((upS σ 66 5 0) 66 7)] (upS σ 66 5 0) (.inl [iV v1]) (upS σ 66 5 0) ∧ (if v1 = 0 then (∃ v2 : Int, ∃ σ2 : Sg, C MX11_fails [rV 20 66, iV 1] (upS σ 66 5 0) (.inl [iV v2]) σ2 ∧ (Xr [iV v2] σ2)) else (∃ σ3 : Sg, C MX11_begins [rV 1000181 68] (upS (upS (upS (upS (upS σ 66 5 0) 66 8 x1) 66 7 0) 66 9 0) 66 13 0) (.inl []) σ3 ∧ (∃ σ4 : Sg, C MX11_reads [rV 20 66] σ3 (.inl []) σ4 ∧ (∃ σ5 : Sg, C MX11_readMint [rV 20 66] σ4 (.inl []) σ5 ∧ (∃ σ6 : Sg, C MX11_readStop [rV 20 66] σ5 (.inl []) σ6 ∧ (X 64 [rV 20 66, iV x1] [] σ6))))))) : X 0 [rV 20 66, iV x1] [] σ := by
  refine st_aload_n (pc := 0) hC dX11_town_0 rfl (by decide) (by decide) ?_
  refine st_iconst (pc := 1) hC dX11_town_1 (by decide) ?_
  refine st_putfI (ci := 10) (f := 5) (pc := 2) hC dX11_town_2 fl_11_64 rfl rfl ?_
  refine st_iload_n (pc := 5) hC dX11_town_5 rfl ?_
  refine st_i2l (pc := 6) hC dX11_town_6 ?_
  refine st_lconst0 (pc := 7) hC dX11_town_7 ?_
  refine st_aload_n (pc := 8) hC dX11_town_8 rfl (by decide) (by decide) ?_
  refine st_getf (ci := 10) (f := 7) (v := iV ((upS σ 66 5 0) 66 7)) (pc := 9) hC dX11_town_9 fl_11_67 rfl rfl ?_
  refine st_i2l (pc := 12) hC dX11_town_12 ?_
  obtain ⟨v1, hq, h⟩ := h
  refine st_invS (As := [lV x1, lV 0, lV ((upS σ 66 5 0) 66 7)]) (v := [iV v1]) (S := []) (pc := 13) hC dX11_town_13 cl_11_133 rfl rfl (Nat.le_of_ble_eq_true rfl) hq ?_
  refine st_if_ne (tg := 25) (pc := 16) hC dX11_town_16 (by decide) (ite_im h (fun h => ?_) (fun h => ?_))
  · refine st_aload_n (pc := 19) hC dX11_town_19 rfl (by decide) (by decide) ?_
    refine st_iconst (pc := 20) hC dX11_town_20 (by decide) ?_
    obtain ⟨v2, σ2, hq, h⟩ := h
    refine st_invV (As := [iV 1]) (v := [iV v2]) (S := []) (pc := 21) hC dX11_town_21 cl_11_178 rfl rfl (Nat.le_of_ble_eq_true rfl) cr_X11_fails hq ?_
    exact st_ireturn (pc := 24) hC dX11_town_24 trivial h
  · refine st_aload_n (pc := 25) hC dX11_town_25 rfl (by decide) (by decide) ?_
    refine st_iload_n (pc := 26) hC dX11_town_26 rfl ?_
    refine st_putfI (ci := 10) (f := 8) (pc := 27) hC dX11_town_27 fl_11_70 rfl rfl ?_
    refine st_aload_n (pc := 30) hC dX11_town_30 rfl (by decide) (by decide) ?_
    refine st_iconst (pc := 31) hC dX11_town_31 (by decide) ?_
    refine st_putfI (ci := 10) (f := 7) (pc := 32) hC dX11_town_32 fl_11_67 rfl rfl ?_
    refine st_aload_n (pc := 35) hC dX11_town_35 rfl (by decide) (by decide) ?_
    refine st_iconst (pc := 36) hC dX11_town_36 (by decide) ?_
    refine st_putfI (ci := 10) (f := 9) (pc := 37) hC dX11_town_37 fl_11_73 rfl rfl ?_
    refine st_aload_n (pc := 40) hC dX11_town_40 rfl (by decide) (by decide) ?_
    refine st_iconst (pc := 41) hC dX11_town_41 (by decide) ?_
    refine st_putfI (ci := 10) (f := 13) (pc := 42) hC dX11_town_42 fl_11_96 rfl rfl ?_
    refine st_aload_n (pc := 45) hC dX11_town_45 rfl (by decide) (by decide) ?_
    refine st_getf (ci := 10) (f := 1) (v := rV 1000181 68) (pc := 46) hC dX11_town_46 fl_11_13 rfl rfl ?_
    obtain ⟨σ3, hq, h⟩ := h
    refine st_invS (As := [rV 1000181 68]) (v := []) (S := []) (pc := 49) hC dX11_town_49 cl_11_56 rfl rfl (Nat.le_of_ble_eq_true rfl) hq ?_
    refine st_aload_n (pc := 52) hC dX11_town_52 rfl (by decide) (by decide) ?_
    obtain ⟨σ4, hq, h⟩ := h
    refine st_invV (As := []) (v := []) (S := []) (pc := 53) hC dX11_town_53 cl_11_115 rfl rfl (Nat.le_of_ble_eq_true rfl) cr_X11_reads hq ?_
    refine st_aload_n (pc := 56) hC dX11_town_56 rfl (by decide) (by decide) ?_
    obtain ⟨σ5, hq, h⟩ := h
    refine st_invV (As := []) (v := []) (S := []) (pc := 57) hC dX11_town_57 cl_11_181 rfl rfl (Nat.le_of_ble_eq_true rfl) cr_X11_readMint hq ?_
    refine st_aload_n (pc := 60) hC dX11_town_60 rfl (by decide) (by decide) ?_
    obtain ⟨σ6, hq, h⟩ := h
    refine st_invV (As := []) (v := []) (S := []) (pc := 61) hC dX11_town_61 cl_11_175 rfl rfl (Nat.le_of_ble_eq_true rfl) cr_X11_readStop hq ?_
    exact h
theorem bX11_town_64 {C : Nat → List Vv → Sg → Rs → Sg → Prop} {X : Nat → List Vv → List Vv → Sg → Prop} {Xr : List Vv → Sg → Prop} {Xt : Nat → Sg → Prop} (hC : Clo C 11 cX11_town (some .int) X Xr Xt) {x1 : Int} {σ : Sg} (h : if (σ 66 13) = 0 then (if (σ 66 11) = 0 then (if ((upS σ 66 15 (σ 66 13)) 66 13) = 0 then (if ((upS (upS σ 66 15 (σ 66 13)) 66 16 (-1)) 66 13) = 0 then (∃ σ1 : Sg, C MX11_copies [rV 1000181 68, rV 1000181 67] (upS (upS σ 66 15 (σ 66 13)) 66 16 (-1)) (.inl []) σ1 ∧ (Xr [iV (σ1 67 0)] σ1)) else (Xr [iV (w32 ((-10) - ((upS (upS σ 66 15 (σ 66 13)) 66 16 (-1)) 66 13)))] (upS (upS σ 66 15 (σ 66 13)) 66 16 (-1)))) else (if ((upS (upS σ 66 15 (σ 66 13)) 66 16 ((upS σ 66 15 (σ 66 13)) 66 14)) 66 13) = 0 then (∃ σ2 : Sg, C MX11_copies [rV 1000181 68, rV 1000181 67] (upS (upS σ 66 15 (σ 66 13)) 66 16 ((upS σ 66 15 (σ 66 13)) 66 14)) (.inl []) σ2 ∧ (Xr [iV (σ2 67 0)] σ2)) else (Xr [iV (w32 ((-10) - ((upS (upS σ 66 15 (σ 66 13)) 66 16 ((upS σ 66 15 (σ 66 13)) 66 14)) 66 13)))] (upS (upS σ 66 15 (σ 66 13)) 66 16 ((upS σ 66 15 (σ 66 13)) 66 14))))) else (∃ σ3 : Sg, C MX11_readLine [rV 20 66] σ (.inl []) σ3 ∧ (X 64 [rV 20 66, iV x1] [] σ3))) else (if ((upS σ 66 15 (σ 66 13)) 66 13) = 0 then (if ((upS (upS σ 66 15 (σ 66 13)) 66 16 (-1)) 66 13) = 0 then (∃ σ4 : Sg, C MX11_copies [rV 1000181 68, rV 1000181 67] (upS (upS σ 66 15 (σ 66 13)) 66 16 (-1)) (.inl []) σ4 ∧ (Xr [iV (σ4 67 0)] σ4)) else (Xr [iV (w32 ((-10) - ((upS (upS σ 66 15 (σ 66 13)) 66 16 (-1)) 66 13)))] (upS (upS σ 66 15 (σ 66 13)) 66 16 (-1)))) else (if ((upS (upS σ 66 15 (σ 66 13)) 66 16 ((upS σ 66 15 (σ 66 13)) 66 14)) 66 13) = 0 then (∃ σ5 : Sg, C MX11_copies [rV 1000181 68, rV 1000181 67] (upS (upS σ 66 15 (σ 66 13)) 66 16 ((upS σ 66 15 (σ 66 13)) 66 14)) (.inl []) σ5 ∧ (Xr [iV (σ5 67 0)] σ5)) else (Xr [iV (w32 ((-10) - ((upS (upS σ 66 15 (σ 66 13)) 66 16 ((upS σ 66 15 (σ 66 13)) 66 14)) 66 13)))] (upS (upS σ 66 15 (σ 66 13)) 66 16 ((upS σ 66 15 (σ 66 13)) 66 14)))))) : X 64 [rV 20 66, iV x1] [] σ := by
  refine st_aload_n (pc := 64) hC dX11_town_64 rfl (by decide) (by decide) ?_
  refine st_getf (ci := 10) (f := 13) (v := iV (σ 66 13)) (pc := 65) hC dX11_town_65 fl_11_96 rfl rfl ?_
  refine st_if_ne (tg := 85) (pc := 68) hC dX11_town_68 (by decide) (ite_im h (fun h => ?_) (fun h => ?_))
  · refine st_aload_n (pc := 71) hC dX11_town_71 rfl (by decide) (by decide) ?_
    refine st_getf (ci := 10) (f := 11) (v := iV (σ 66 11)) (pc := 72) hC dX11_town_72 fl_11_79 rfl rfl ?_
    refine st_if_eq (tg := 85) (pc := 75) hC dX11_town_75 (by decide) (ite_im h (fun h => ?_) (fun h => ?_))
    · refine st_aload_n (pc := 85) hC dX11_town_85 rfl (by decide) (by decide) ?_
      refine st_aload_n (pc := 86) hC dX11_town_86 rfl (by decide) (by decide) ?_
      refine st_getf (ci := 10) (f := 13) (v := iV (σ 66 13)) (pc := 87) hC dX11_town_87 fl_11_96 rfl rfl ?_
      refine st_putfI (ci := 10) (f := 15) (pc := 90) hC dX11_town_90 fl_11_187 rfl rfl ?_
      refine st_aload_n (pc := 93) hC dX11_town_93 rfl (by decide) (by decide) ?_
      refine st_aload_n (pc := 94) hC dX11_town_94 rfl (by decide) (by decide) ?_
      refine st_getf (ci := 10) (f := 13) (v := iV ((upS σ 66 15 (σ 66 13)) 66 13)) (pc := 95) hC dX11_town_95 fl_11_96 rfl rfl ?_
      refine st_if_ne (tg := 105) (pc := 98) hC dX11_town_98 (by decide) (ite_im h (fun h => ?_) (fun h => ?_))
      · refine st_iconst (pc := 101) hC dX11_town_101 (by decide) ?_
        refine st_goto (tg := 109) (pc := 102) hC dX11_town_102 (by decide) ?_
        refine st_putfI (ci := 10) (f := 16) (pc := 109) hC dX11_town_109 fl_11_29 rfl rfl ?_
        refine st_aload_n (pc := 112) hC dX11_town_112 rfl (by decide) (by decide) ?_
        refine st_getf (ci := 10) (f := 13) (v := iV ((upS (upS σ 66 15 (σ 66 13)) 66 16 (-1)) 66 13)) (pc := 113) hC dX11_town_113 fl_11_96 rfl rfl ?_
        refine st_if_eq (tg := 127) (pc := 116) hC dX11_town_116 (by decide) (ite_im h (fun h => ?_) (fun h => ?_))
        · refine st_aload_n (pc := 127) hC dX11_town_127 rfl (by decide) (by decide) ?_
          refine st_getf (ci := 10) (f := 1) (v := rV 1000181 68) (pc := 128) hC dX11_town_128 fl_11_13 rfl rfl ?_
          refine st_aload_n (pc := 131) hC dX11_town_131 rfl (by decide) (by decide) ?_
          refine st_getf (ci := 10) (f := 0) (v := rV 1000181 67) (pc := 132) hC dX11_town_132 fl_11_9 rfl rfl ?_
          obtain ⟨σ1, hq, h⟩ := h
          refine st_invS (As := [rV 1000181 68, rV 1000181 67]) (v := []) (S := []) (pc := 135) hC dX11_town_135 cl_11_60 rfl rfl (Nat.le_of_ble_eq_true rfl) hq ?_
          refine st_aload_n (pc := 138) hC dX11_town_138 rfl (by decide) (by decide) ?_
          refine st_getf (ci := 10) (f := 0) (v := rV 1000181 67) (pc := 139) hC dX11_town_139 fl_11_9 rfl rfl ?_
          refine st_iconst (pc := 142) hC dX11_town_142 (by decide) ?_
          refine st_iald (n := 181) (pc := 143) hC dX11_town_143 (by decide) ⟨by decide, by decide⟩ ?_
          exact st_ireturn (pc := 144) hC dX11_town_144 trivial h
        · refine st_bipush (pc := 119) hC dX11_town_119 (by decide) ?_
          refine st_aload_n (pc := 121) hC dX11_town_121 rfl (by decide) (by decide) ?_
          refine st_getf (ci := 10) (f := 13) (v := iV ((upS (upS σ 66 15 (σ 66 13)) 66 16 (-1)) 66 13)) (pc := 122) hC dX11_town_122 fl_11_96 rfl rfl ?_
          refine st_isub (pc := 125) hC dX11_town_125 ?_
          exact st_ireturn (pc := 126) hC dX11_town_126 trivial h
      · refine st_aload_n (pc := 105) hC dX11_town_105 rfl (by decide) (by decide) ?_
        refine st_getf (ci := 10) (f := 14) (v := iV ((upS σ 66 15 (σ 66 13)) 66 14)) (pc := 106) hC dX11_town_106 fl_11_99 rfl rfl ?_
        refine st_putfI (ci := 10) (f := 16) (pc := 109) hC dX11_town_109 fl_11_29 rfl rfl ?_
        refine st_aload_n (pc := 112) hC dX11_town_112 rfl (by decide) (by decide) ?_
        refine st_getf (ci := 10) (f := 13) (v := iV ((upS (upS σ 66 15 (σ 66 13)) 66 16 ((upS σ 66 15 (σ 66 13)) 66 14)) 66 13)) (pc := 113) hC dX11_town_113 fl_11_96 rfl rfl ?_
        refine st_if_eq (tg := 127) (pc := 116) hC dX11_town_116 (by decide) (ite_im h (fun h => ?_) (fun h => ?_))
        · refine st_aload_n (pc := 127) hC dX11_town_127 rfl (by decide) (by decide) ?_
          refine st_getf (ci := 10) (f := 1) (v := rV 1000181 68) (pc := 128) hC dX11_town_128 fl_11_13 rfl rfl ?_
          refine st_aload_n (pc := 131) hC dX11_town_131 rfl (by decide) (by decide) ?_
          refine st_getf (ci := 10) (f := 0) (v := rV 1000181 67) (pc := 132) hC dX11_town_132 fl_11_9 rfl rfl ?_
          obtain ⟨σ2, hq, h⟩ := h
          refine st_invS (As := [rV 1000181 68, rV 1000181 67]) (v := []) (S := []) (pc := 135) hC dX11_town_135 cl_11_60 rfl rfl (Nat.le_of_ble_eq_true rfl) hq ?_
          refine st_aload_n (pc := 138) hC dX11_town_138 rfl (by decide) (by decide) ?_
          refine st_getf (ci := 10) (f := 0) (v := rV 1000181 67) (pc := 139) hC dX11_town_139 fl_11_9 rfl rfl ?_
          refine st_iconst (pc := 142) hC dX11_town_142 (by decide) ?_
          refine st_iald (n := 181) (pc := 143) hC dX11_town_143 (by decide) ⟨by decide, by decide⟩ ?_
          exact st_ireturn (pc := 144) hC dX11_town_144 trivial h
        · refine st_bipush (pc := 119) hC dX11_town_119 (by decide) ?_
          refine st_aload_n (pc := 121) hC dX11_town_121 rfl (by decide) (by decide) ?_
          refine st_getf (ci := 10) (f := 13) (v := iV ((upS (upS σ 66 15 (σ 66 13)) 66 16 ((upS σ 66 15 (σ 66 13)) 66 14)) 66 13)) (pc := 122) hC dX11_town_122 fl_11_96 rfl rfl ?_
          refine st_isub (pc := 125) hC dX11_town_125 ?_
          exact st_ireturn (pc := 126) hC dX11_town_126 trivial h
    · refine st_aload_n (pc := 78) hC dX11_town_78 rfl (by decide) (by decide) ?_
      obtain ⟨σ3, hq, h⟩ := h
      refine st_invV (As := []) (v := []) (S := []) (pc := 79) hC dX11_town_79 cl_11_184 rfl rfl (Nat.le_of_ble_eq_true rfl) cr_X11_readLine hq ?_
      refine st_goto (tg := 64) (pc := 82) hC dX11_town_82 (by decide) ?_
      exact h
  · refine st_aload_n (pc := 85) hC dX11_town_85 rfl (by decide) (by decide) ?_
    refine st_aload_n (pc := 86) hC dX11_town_86 rfl (by decide) (by decide) ?_
    refine st_getf (ci := 10) (f := 13) (v := iV (σ 66 13)) (pc := 87) hC dX11_town_87 fl_11_96 rfl rfl ?_
    refine st_putfI (ci := 10) (f := 15) (pc := 90) hC dX11_town_90 fl_11_187 rfl rfl ?_
    refine st_aload_n (pc := 93) hC dX11_town_93 rfl (by decide) (by decide) ?_
    refine st_aload_n (pc := 94) hC dX11_town_94 rfl (by decide) (by decide) ?_
    refine st_getf (ci := 10) (f := 13) (v := iV ((upS σ 66 15 (σ 66 13)) 66 13)) (pc := 95) hC dX11_town_95 fl_11_96 rfl rfl ?_
    refine st_if_ne (tg := 105) (pc := 98) hC dX11_town_98 (by decide) (ite_im h (fun h => ?_) (fun h => ?_))
    · refine st_iconst (pc := 101) hC dX11_town_101 (by decide) ?_
      refine st_goto (tg := 109) (pc := 102) hC dX11_town_102 (by decide) ?_
      refine st_putfI (ci := 10) (f := 16) (pc := 109) hC dX11_town_109 fl_11_29 rfl rfl ?_
      refine st_aload_n (pc := 112) hC dX11_town_112 rfl (by decide) (by decide) ?_
      refine st_getf (ci := 10) (f := 13) (v := iV ((upS (upS σ 66 15 (σ 66 13)) 66 16 (-1)) 66 13)) (pc := 113) hC dX11_town_113 fl_11_96 rfl rfl ?_
      refine st_if_eq (tg := 127) (pc := 116) hC dX11_town_116 (by decide) (ite_im h (fun h => ?_) (fun h => ?_))
      · refine st_aload_n (pc := 127) hC dX11_town_127 rfl (by decide) (by decide) ?_
        refine st_getf (ci := 10) (f := 1) (v := rV 1000181 68) (pc := 128) hC dX11_town_128 fl_11_13 rfl rfl ?_
        refine st_aload_n (pc := 131) hC dX11_town_131 rfl (by decide) (by decide) ?_
        refine st_getf (ci := 10) (f := 0) (v := rV 1000181 67) (pc := 132) hC dX11_town_132 fl_11_9 rfl rfl ?_
        obtain ⟨σ4, hq, h⟩ := h
        refine st_invS (As := [rV 1000181 68, rV 1000181 67]) (v := []) (S := []) (pc := 135) hC dX11_town_135 cl_11_60 rfl rfl (Nat.le_of_ble_eq_true rfl) hq ?_
        refine st_aload_n (pc := 138) hC dX11_town_138 rfl (by decide) (by decide) ?_
        refine st_getf (ci := 10) (f := 0) (v := rV 1000181 67) (pc := 139) hC dX11_town_139 fl_11_9 rfl rfl ?_
        refine st_iconst (pc := 142) hC dX11_town_142 (by decide) ?_
        refine st_iald (n := 181) (pc := 143) hC dX11_town_143 (by decide) ⟨by decide, by decide⟩ ?_
        exact st_ireturn (pc := 144) hC dX11_town_144 trivial h
      · refine st_bipush (pc := 119) hC dX11_town_119 (by decide) ?_
        refine st_aload_n (pc := 121) hC dX11_town_121 rfl (by decide) (by decide) ?_
        refine st_getf (ci := 10) (f := 13) (v := iV ((upS (upS σ 66 15 (σ 66 13)) 66 16 (-1)) 66 13)) (pc := 122) hC dX11_town_122 fl_11_96 rfl rfl ?_
        refine st_isub (pc := 125) hC dX11_town_125 ?_
        exact st_ireturn (pc := 126) hC dX11_town_126 trivial h
    · refine st_aload_n (pc := 105) hC dX11_town_105 rfl (by decide) (by decide) ?_
      refine st_getf (ci := 10) (f := 14) (v := iV ((upS σ 66 15 (σ 66 13)) 66 14)) (pc := 106) hC dX11_town_106 fl_11_99 rfl rfl ?_
      refine st_putfI (ci := 10) (f := 16) (pc := 109) hC dX11_town_109 fl_11_29 rfl rfl ?_
      refine st_aload_n (pc := 112) hC dX11_town_112 rfl (by decide) (by decide) ?_
      refine st_getf (ci := 10) (f := 13) (v := iV ((upS (upS σ 66 15 (σ 66 13)) 66 16 ((upS σ 66 15 (σ 66 13)) 66 14)) 66 13)) (pc := 113) hC dX11_town_113 fl_11_96 rfl rfl ?_
      refine st_if_eq (tg := 127) (pc := 116) hC dX11_town_116 (by decide) (ite_im h (fun h => ?_) (fun h => ?_))
      · refine st_aload_n (pc := 127) hC dX11_town_127 rfl (by decide) (by decide) ?_
        refine st_getf (ci := 10) (f := 1) (v := rV 1000181 68) (pc := 128) hC dX11_town_128 fl_11_13 rfl rfl ?_
        refine st_aload_n (pc := 131) hC dX11_town_131 rfl (by decide) (by decide) ?_
        refine st_getf (ci := 10) (f := 0) (v := rV 1000181 67) (pc := 132) hC dX11_town_132 fl_11_9 rfl rfl ?_
        obtain ⟨σ5, hq, h⟩ := h
        refine st_invS (As := [rV 1000181 68, rV 1000181 67]) (v := []) (S := []) (pc := 135) hC dX11_town_135 cl_11_60 rfl rfl (Nat.le_of_ble_eq_true rfl) hq ?_
        refine st_aload_n (pc := 138) hC dX11_town_138 rfl (by decide) (by decide) ?_
        refine st_getf (ci := 10) (f := 0) (v := rV 1000181 67) (pc := 139) hC dX11_town_139 fl_11_9 rfl rfl ?_
        refine st_iconst (pc := 142) hC dX11_town_142 (by decide) ?_
        refine st_iald (n := 181) (pc := 143) hC dX11_town_143 (by decide) ⟨by decide, by decide⟩ ?_
        exact st_ireturn (pc := 144) hC dX11_town_144 trivial h
      · refine st_bipush (pc := 119) hC dX11_town_119 (by decide) ?_
        refine st_aload_n (pc := 121) hC dX11_town_121 rfl (by decide) (by decide) ?_
        refine st_getf (ci := 10) (f := 13) (v := iV ((upS (upS σ 66 15 (σ 66 13)) 66 16 ((upS σ 66 15 (σ 66 13)) 66 14)) 66 13)) (pc := 122) hC dX11_town_122 fl_11_96 rfl rfl ?_
        refine st_isub (pc := 125) hC dX11_town_125 ?_
        exact st_ireturn (pc := 126) hC dX11_town_126 trivial h
theorem bX11_fault_0 {C : Nat → List Vv → Sg → Rs → Sg → Prop} {X : Nat → List Vv → List Vv → Sg → Prop} {Xr : List Vv → Sg → Prop} {Xt : Nat → Sg → Prop} (hC : Clo C 11 cX11_fault (some .int) X Xr Xt) {x1 : Int} {σ : Sg} (h : if x1 = 0 then (Xr [iV ((upS σ 66 5 0) 66 15)] (upS σ 66 5 0)) else (if x1 = 1 then (Xr [iV ((upS σ 66 5 0) 66 16)] (upS σ 66 5 0)) else (Xr [iV (-1)] (upS σ 66 5 0)))) : X 0 [rV 20 66, iV x1] [] σ := by
  refine st_aload_n (pc := 0) hC dX11_fault_0 rfl (by decide) (by decide) ?_
  refine st_iconst (pc := 1) hC dX11_fault_1 (by decide) ?_
  refine st_putfI (ci := 10) (f := 5) (pc := 2) hC dX11_fault_2 fl_11_64 rfl rfl ?_
  refine st_iload_n (pc := 5) hC dX11_fault_5 rfl ?_
  refine st_if_ne (tg := 16) (pc := 6) hC dX11_fault_6 (by decide) (ite_im h (fun h => ?_) (fun h => ?_))
  · refine st_aload_n (pc := 9) hC dX11_fault_9 rfl (by decide) (by decide) ?_
    refine st_getf (ci := 10) (f := 15) (v := iV ((upS σ 66 5 0) 66 15)) (pc := 10) hC dX11_fault_10 fl_11_187 rfl rfl ?_
    refine st_goto (tg := 29) (pc := 13) hC dX11_fault_13 (by decide) ?_
    exact st_ireturn (pc := 29) hC dX11_fault_29 trivial h
  · refine st_iload_n (pc := 16) hC dX11_fault_16 rfl ?_
    refine st_iconst (pc := 17) hC dX11_fault_17 (by decide) ?_
    refine st_icmp_ne (tg := 28) (pc := 18) hC dX11_fault_18 (by decide) (ite_im h (fun h => ?_) (fun h => ?_))
    · refine st_aload_n (pc := 21) hC dX11_fault_21 rfl (by decide) (by decide) ?_
      refine st_getf (ci := 10) (f := 16) (v := iV ((upS σ 66 5 0) 66 16)) (pc := 22) hC dX11_fault_22 fl_11_29 rfl rfl ?_
      refine st_goto (tg := 29) (pc := 25) hC dX11_fault_25 (by decide) ?_
      exact st_ireturn (pc := 29) hC dX11_fault_29 trivial h
    · refine st_iconst (pc := 28) hC dX11_fault_28 (by decide) ?_
      exact st_ireturn (pc := 29) hC dX11_fault_29 trivial h
theorem bX11_coins_0 {C : Nat → List Vv → Sg → Rs → Sg → Prop} {X : Nat → List Vv → List Vv → Sg → Prop} {Xr : List Vv → Sg → Prop} {Xt : Nat → Sg → Prop} (hC : Clo C 11 cX11_coins (some .int) X Xr Xt) {σ : Sg} (h : Xr [iV (σ 67 1)] σ) : X 0 [rV 20 66] [] σ := by
  refine st_aload_n (pc := 0) hC dX11_coins_0 rfl (by decide) (by decide) ?_
  refine st_getf (ci := 10) (f := 0) (v := rV 1000181 67) (pc := 1) hC dX11_coins_1 fl_11_9 rfl rfl ?_
  refine st_iconst (pc := 4) hC dX11_coins_4 (by decide) ?_
  refine st_iald (n := 181) (pc := 5) hC dX11_coins_5 (by decide) ⟨by decide, by decide⟩ ?_
  exact st_ireturn (pc := 6) hC dX11_coins_6 trivial h
theorem bX11_people_0 {C : Nat → List Vv → Sg → Rs → Sg → Prop} {X : Nat → List Vv → List Vv → Sg → Prop} {Xr : List Vv → Sg → Prop} {Xt : Nat → Sg → Prop} (hC : Clo C 11 cX11_people (some .int) X Xr Xt) {σ : Sg} (h : Xr [iV (σ 67 2)] σ) : X 0 [rV 20 66] [] σ := by
  refine st_aload_n (pc := 0) hC dX11_people_0 rfl (by decide) (by decide) ?_
  refine st_getf (ci := 10) (f := 0) (v := rV 1000181 67) (pc := 1) hC dX11_people_1 fl_11_9 rfl rfl ?_
  refine st_iconst (pc := 4) hC dX11_people_4 (by decide) ?_
  refine st_iald (n := 181) (pc := 5) hC dX11_people_5 (by decide) ⟨by decide, by decide⟩ ?_
  exact st_ireturn (pc := 6) hC dX11_people_6 trivial h
theorem bX11_isPerson_0 {C : Nat → List Vv → Sg → Rs → Sg → Prop} {X : Nat → List Vv → List Vv → Sg → Prop} {Xr : List Vv → Sg → Prop} {Xt : Nat → Sg → Prop} (hC : Clo C 11 cX11_isPerson (some .boolean) X Xr Xt) {x1 : Int} {σ : Sg} (h : ∃ v1 : Int, C MX11_people [rV 20 66] σ (.inl [iV v1]) σ ∧ (∃ v2 : Int, C MX11_within [lV x1, lV 0, lV (w32 (v1 - 1))] σ (.inl [iV v2]) σ ∧ ((v2 = 0 ∨ v2 = 1) ∧ Xr [iV v2] σ))) : X 0 [rV 20 66, lV x1, uV] [] σ := by
  refine st_lload_n (pc := 0) hC dX11_isPerson_0 rfl ?_
  refine st_lconst0 (pc := 1) hC dX11_isPerson_1 ?_
  refine st_aload_n (pc := 2) hC dX11_isPerson_2 rfl (by decide) (by decide) ?_
  obtain ⟨v1, hq, h⟩ := h
  refine st_invV (As := []) (v := [iV v1]) (S := [lV 0, lV x1]) (pc := 3) hC dX11_isPerson_3 cl_11_190 rfl rfl (Nat.le_of_ble_eq_true rfl) cr_X11_people hq ?_
  refine st_iconst (pc := 6) hC dX11_isPerson_6 (by decide) ?_
  refine st_isub (pc := 7) hC dX11_isPerson_7 ?_
  refine st_i2l (pc := 8) hC dX11_isPerson_8 ?_
  obtain ⟨v2, hq, h⟩ := h
  refine st_invS (As := [lV x1, lV 0, lV (w32 (v1 - 1))]) (v := [iV v2]) (S := []) (pc := 9) hC dX11_isPerson_9 cl_11_133 rfl rfl (Nat.le_of_ble_eq_true rfl) hq ?_
  exact st_ireturn (pc := 12) hC dX11_isPerson_12 h.1 h.2
theorem bX11_prime_0 {C : Nat → List Vv → Sg → Rs → Sg → Prop} {X : Nat → List Vv → List Vv → Sg → Prop} {Xr : List Vv → Sg → Prop} {Xt : Nat → Sg → Prop} (hC : Clo C 11 cX11_prime (some .int) X Xr Xt) {x1 : Int} {σ : Sg} (h : (0 ≤ (w32 (4 + x1)) ∧ (w32 (4 + x1)) < 181) ∧ (Xr [iV (σ 67 ((w32 (4 + x1))).toNat)] σ)) : X 0 [rV 20 66, iV x1] [] σ := by
  refine st_aload_n (pc := 0) hC dX11_prime_0 rfl (by decide) (by decide) ?_
  refine st_getf (ci := 10) (f := 0) (v := rV 1000181 67) (pc := 1) hC dX11_prime_1 fl_11_9 rfl rfl ?_
  refine st_iconst (pc := 4) hC dX11_prime_4 (by decide) ?_
  refine st_iload_n (pc := 5) hC dX11_prime_5 rfl ?_
  refine st_iadd (pc := 6) hC dX11_prime_6 ?_
  obtain ⟨hb, h⟩ := h
  refine st_iald (n := 181) (pc := 7) hC dX11_prime_7 (by decide) hb ?_
  exact st_ireturn (pc := 8) hC dX11_prime_8 trivial h
theorem bX11_of_0 {C : Nat → List Vv → Sg → Rs → Sg → Prop} {X : Nat → List Vv → List Vv → Sg → Prop} {Xr : List Vv → Sg → Prop} {Xt : Nat → Sg → Prop} (hC : Clo C 11 cX11_of (some .int) X Xr Xt) {x1 x2 : Int} {σ : Sg} (h : (0 ≤ (w32 ((w32 (12 + (w32 (8 * x1)))) + x2)) ∧ (w32 ((w32 (12 + (w32 (8 * x1)))) + x2)) < 181) ∧ (Xr [iV (σ 67 ((w32 ((w32 (12 + (w32 (8 * x1)))) + x2))).toNat)] σ)) : X 0 [rV 20 66, iV x1, iV x2] [] σ := by
  refine st_aload_n (pc := 0) hC dX11_of_0 rfl (by decide) (by decide) ?_
  refine st_getf (ci := 10) (f := 0) (v := rV 1000181 67) (pc := 1) hC dX11_of_1 fl_11_9 rfl rfl ?_
  refine st_bipush (pc := 4) hC dX11_of_4 (by decide) ?_
  refine st_bipush (pc := 6) hC dX11_of_6 (by decide) ?_
  refine st_iload_n (pc := 8) hC dX11_of_8 rfl ?_
  refine st_imul (pc := 9) hC dX11_of_9 ?_
  refine st_iadd (pc := 10) hC dX11_of_10 ?_
  refine st_iload_n (pc := 11) hC dX11_of_11 rfl ?_
  refine st_iadd (pc := 12) hC dX11_of_12 ?_
  obtain ⟨hb, h⟩ := h
  refine st_iald (n := 181) (pc := 13) hC dX11_of_13 (by decide) hb ?_
  exact st_ireturn (pc := 14) hC dX11_of_14 trivial h
theorem bX11_size_0 {C : Nat → List Vv → Sg → Rs → Sg → Prop} {X : Nat → List Vv → List Vv → Sg → Prop} {Xr : List Vv → Sg → Prop} {Xt : Nat → Sg → Prop} (hC : Clo C 11 cX11_size (some .int) X Xr Xt) {x1 : Int} {σ : Sg} (h : X 4 [rV 20 66, iV x1, iV 0, iV 0] [] σ) : X 0 [rV 20 66, iV x1, uV, uV] [] σ := by
  refine st_iconst (pc := 0) hC dX11_size_0 (by decide) ?_
  refine st_istore_n (L2 := [rV 20 66, iV x1, iV 0, uV]) (pc := 1) hC dX11_size_1 (Nat.le_of_ble_eq_true rfl) rfl ?_
  refine st_iconst (pc := 2) hC dX11_size_2 (by decide) ?_
  refine st_istore_n (L2 := [rV 20 66, iV x1, iV 0, iV 0]) (pc := 3) hC dX11_size_3 (Nat.le_of_ble_eq_true rfl) rfl ?_
  exact h
theorem bX11_size_4 {C : Nat → List Vv → Sg → Rs → Sg → Prop} {X : Nat → List Vv → List Vv → Sg → Prop} {Xr : List Vv → Sg → Prop} {Xt : Nat → Sg → Prop} (hC : Clo C 11 cX11_size (some .int) X Xr Xt) {x1 x2 x3 : Int} {σ : Sg} (h : ∃ v1 : Int, C MX11_coins [rV 20 66] σ (.inl [iV v1]) σ ∧ (if x3 < v1 then (∃ v2 : Int, C MX11_of [rV 20 66, iV x1, iV x3] σ (.inl [iV v2]) σ ∧ (X 4 [rV 20 66, iV x1, iV (w32 (x2 + v2)), iV (w32 (x3 + 1))] [] σ)) else (Xr [iV x2] σ))) : X 4 [rV 20 66, iV x1, iV x2, iV x3] [] σ := by
  refine st_iload_n (pc := 4) hC dX11_size_4 rfl ?_
  refine st_aload_n (pc := 5) hC dX11_size_5 rfl (by decide) (by decide) ?_
  obtain ⟨v1, hq, h⟩ := h
  refine st_invV (As := []) (v := [iV v1]) (S := [iV x3]) (pc := 6) hC dX11_size_6 cl_11_193 rfl rfl (Nat.le_of_ble_eq_true rfl) cr_X11_coins hq ?_
  refine st_icmp_ge (tg := 27) (pc := 9) hC dX11_size_9 (by decide) (ite_im h (fun h => ?_) (fun h => ?_))
  · refine st_iload_n (pc := 12) hC dX11_size_12 rfl ?_
    refine st_aload_n (pc := 13) hC dX11_size_13 rfl (by decide) (by decide) ?_
    refine st_iload_n (pc := 14) hC dX11_size_14 rfl ?_
    refine st_iload_n (pc := 15) hC dX11_size_15 rfl ?_
    obtain ⟨v2, hq, h⟩ := h
    refine st_invV (As := [iV x1, iV x3]) (v := [iV v2]) (S := [iV x2]) (pc := 16) hC dX11_size_16 cl_11_196 rfl rfl (Nat.le_of_ble_eq_true rfl) cr_X11_of hq ?_
    refine st_iadd (pc := 19) hC dX11_size_19 ?_
    refine st_istore_n (L2 := [rV 20 66, iV x1, iV (w32 (x2 + v2)), iV x3]) (pc := 20) hC dX11_size_20 (Nat.le_of_ble_eq_true rfl) rfl ?_
    refine st_iinc (L2 := [rV 20 66, iV x1, iV (w32 (x2 + v2)), iV (w32 (x3 + 1))]) (pc := 21) hC dX11_size_21 rfl (Nat.le_of_ble_eq_true rfl) rfl ?_
    refine st_goto (tg := 4) (pc := 24) hC dX11_size_24 (by decide) ?_
    exact h
  · refine st_iload_n (pc := 27) hC dX11_size_27 rfl ?_
    exact st_ireturn (pc := 28) hC dX11_size_28 trivial h
theorem bX11_worthOf_0 {C : Nat → List Vv → Sg → Rs → Sg → Prop} {X : Nat → List Vv → List Vv → Sg → Prop} {Xr : List Vv → Sg → Prop} {Xt : Nat → Sg → Prop} (hC : Clo C 11 cX11_worthOf (some .long) X Xr Xt) {x1 : Int} {σ : Sg} (h : X 5 [rV 20 66, iV x1, lV 1, uV, iV 0, uV] [] σ) : X 0 [rV 20 66, iV x1, uV, uV, uV, uV] [] σ := by
  refine st_lconst1 (pc := 0) hC dX11_worthOf_0 ?_
  refine st_lstore_n (L2 := [rV 20 66, iV x1, lV 1, uV, uV, uV]) (pc := 1) hC dX11_worthOf_1 (Nat.le_of_ble_eq_true rfl) rfl ?_
  refine st_iconst (pc := 2) hC dX11_worthOf_2 (by decide) ?_
  refine st_istore (L2 := [rV 20 66, iV x1, lV 1, uV, iV 0, uV]) (pc := 3) hC dX11_worthOf_3 (Nat.le_of_ble_eq_true rfl) rfl ?_
  exact h
theorem bX11_worthOf_5 {C : Nat → List Vv → Sg → Rs → Sg → Prop} {X : Nat → List Vv → List Vv → Sg → Prop} {Xr : List Vv → Sg → Prop} {Xt : Nat → Sg → Prop} (hC : Clo C 11 cX11_worthOf (some .long) X Xr Xt) {x1 x2 x4 : Int} {σ : Sg} (h : ∃ v1 : Int, C MX11_coins [rV 20 66] σ (.inl [iV v1]) σ ∧ (if x4 < v1 then (X 17 [rV 20 66, iV x1, lV x2, uV, iV x4, iV 0] [] σ) else (Xr [lV x2] σ))) : X 5 [rV 20 66, iV x1, lV x2, uV, iV x4, uV] [] σ := by
  refine st_iload (pc := 5) hC dX11_worthOf_5 rfl ?_
  refine st_aload_n (pc := 7) hC dX11_worthOf_7 rfl (by decide) (by decide) ?_
  obtain ⟨v1, hq, h⟩ := h
  refine st_invV (As := []) (v := [iV v1]) (S := [iV x4]) (pc := 8) hC dX11_worthOf_8 cl_11_193 rfl rfl (Nat.le_of_ble_eq_true rfl) cr_X11_coins hq ?_
  refine st_icmp_ge (tg := 51) (pc := 11) hC dX11_worthOf_11 (by decide) (ite_im h (fun h => ?_) (fun h => ?_))
  · refine st_iconst (pc := 14) hC dX11_worthOf_14 (by decide) ?_
    refine st_istore (L2 := [rV 20 66, iV x1, lV x2, uV, iV x4, iV 0]) (pc := 15) hC dX11_worthOf_15 (Nat.le_of_ble_eq_true rfl) rfl ?_
    exact h
  · refine st_lload_n (pc := 51) hC dX11_worthOf_51 rfl ?_
    exact st_lreturn (pc := 52) hC dX11_worthOf_52 h
theorem bX11_worthOf_17 {C : Nat → List Vv → Sg → Rs → Sg → Prop} {X : Nat → List Vv → List Vv → Sg → Prop} {Xr : List Vv → Sg → Prop} {Xt : Nat → Sg → Prop} (hC : Clo C 11 cX11_worthOf (some .long) X Xr Xt) {x1 x2 x4 x5 : Int} {σ : Sg} (h : ∃ v1 : Int, C MX11_of [rV 20 66, iV x1, iV x4] σ (.inl [iV v1]) σ ∧ (if x5 < v1 then (∃ v2 : Int, C MX11_prime [rV 20 66, iV x4] σ (.inl [iV v2]) σ ∧ (X 17 [rV 20 66, iV x1, lV (w64 (x2 * v2)), uV, iV x4, iV (w32 (x5 + 1))] [] σ)) else (X 5 [rV 20 66, iV x1, lV x2, uV, iV (w32 (x4 + 1)), uV] [] σ))) : X 17 [rV 20 66, iV x1, lV x2, uV, iV x4, iV x5] [] σ := by
  refine st_iload (pc := 17) hC dX11_worthOf_17 rfl ?_
  refine st_aload_n (pc := 19) hC dX11_worthOf_19 rfl (by decide) (by decide) ?_
  refine st_iload_n (pc := 20) hC dX11_worthOf_20 rfl ?_
  refine st_iload (pc := 21) hC dX11_worthOf_21 rfl ?_
  obtain ⟨v1, hq, h⟩ := h
  refine st_invV (As := [iV x1, iV x4]) (v := [iV v1]) (S := [iV x5]) (pc := 23) hC dX11_worthOf_23 cl_11_196 rfl rfl (Nat.le_of_ble_eq_true rfl) cr_X11_of hq ?_
  refine st_icmp_ge (tg := 45) (pc := 26) hC dX11_worthOf_26 (by decide) (ite_im h (fun h => ?_) (fun h => ?_))
  · refine st_lload_n (pc := 29) hC dX11_worthOf_29 rfl ?_
    refine st_aload_n (pc := 30) hC dX11_worthOf_30 rfl (by decide) (by decide) ?_
    refine st_iload (pc := 31) hC dX11_worthOf_31 rfl ?_
    obtain ⟨v2, hq, h⟩ := h
    refine st_invV (As := [iV x4]) (v := [iV v2]) (S := [lV x2]) (pc := 33) hC dX11_worthOf_33 cl_11_200 rfl rfl (Nat.le_of_ble_eq_true rfl) cr_X11_prime hq ?_
    refine st_i2l (pc := 36) hC dX11_worthOf_36 ?_
    refine st_lmul (pc := 37) hC dX11_worthOf_37 ?_
    refine st_lstore_n (L2 := [rV 20 66, iV x1, lV (w64 (x2 * v2)), uV, iV x4, iV x5]) (pc := 38) hC dX11_worthOf_38 (Nat.le_of_ble_eq_true rfl) rfl ?_
    refine st_iinc (L2 := [rV 20 66, iV x1, lV (w64 (x2 * v2)), uV, iV x4, iV (w32 (x5 + 1))]) (pc := 39) hC dX11_worthOf_39 rfl (Nat.le_of_ble_eq_true rfl) rfl ?_
    refine st_goto (tg := 17) (pc := 42) hC dX11_worthOf_42 (by decide) ?_
    exact h
  · refine st_iinc (L2 := [rV 20 66, iV x1, lV x2, uV, iV (w32 (x4 + 1)), iV x5]) (pc := 45) hC dX11_worthOf_45 rfl (Nat.le_of_ble_eq_true rfl) rfl ?_
    refine st_goto (tg := 5) (pc := 48) hC dX11_worthOf_48 (by decide) ?_
    exact st_fg (L2 := [rV 20 66, iV x1, lV x2, uV, iV (w32 (x4 + 1)), uV]) hC ⟨Or.inl rfl, Or.inl rfl, Or.inl rfl, Or.inl rfl, Or.inl rfl, Or.inr rfl, trivial⟩ h
theorem bX11_coin_0 {C : Nat → List Vv → Sg → Rs → Sg → Prop} {X : Nat → List Vv → List Vv → Sg → Prop} {Xr : List Vv → Sg → Prop} {Xt : Nat → Sg → Prop} (hC : Clo C 11 cX11_coin (some .int) X Xr Xt) {x1 : Int} {σ : Sg} (h : ∃ v1 : Int, C MX11_coins [rV 20 66] (upS σ 66 5 0) (.inl [iV v1]) (upS σ 66 5 0) ∧ (∃ v2 : Int, C MX11_within [lV x1, lV 0, lV (w32 (v1 - 1))] (upS σ 66 5 0) (.inl [iV v2]) (upS σ 66 5 0) ∧ (if v2 = 0 then (∃ v3 : Int, ∃ σ3 : Sg, C MX11_fails [rV 20 66, iV 1] (upS σ 66 5 0) (.inl [iV v3]) σ3 ∧ (Xr [iV v3] σ3)) else (∃ v4 : Int, C MX11_prime [rV 20 66, iV x1] (upS σ 66 5 0) (.inl [iV v4]) (upS σ 66 5 0) ∧ (Xr [iV v4] (upS σ 66 5 0)))))) : X 0 [rV 20 66, iV x1] [] σ := by
  refine st_aload_n (pc := 0) hC dX11_coin_0 rfl (by decide) (by decide) ?_
  refine st_iconst (pc := 1) hC dX11_coin_1 (by decide) ?_
  refine st_putfI (ci := 10) (f := 5) (pc := 2) hC dX11_coin_2 fl_11_64 rfl rfl ?_
  refine st_iload_n (pc := 5) hC dX11_coin_5 rfl ?_
  refine st_i2l (pc := 6) hC dX11_coin_6 ?_
  refine st_lconst0 (pc := 7) hC dX11_coin_7 ?_
  refine st_aload_n (pc := 8) hC dX11_coin_8 rfl (by decide) (by decide) ?_
  obtain ⟨v1, hq, h⟩ := h
  refine st_invV (As := []) (v := [iV v1]) (S := [lV 0, lV x1]) (pc := 9) hC dX11_coin_9 cl_11_193 rfl rfl (Nat.le_of_ble_eq_true rfl) cr_X11_coins hq ?_
  refine st_iconst (pc := 12) hC dX11_coin_12 (by decide) ?_
  refine st_isub (pc := 13) hC dX11_coin_13 ?_
  refine st_i2l (pc := 14) hC dX11_coin_14 ?_
  obtain ⟨v2, hq, h⟩ := h
  refine st_invS (As := [lV x1, lV 0, lV (w32 (v1 - 1))]) (v := [iV v2]) (S := []) (pc := 15) hC dX11_coin_15 cl_11_133 rfl rfl (Nat.le_of_ble_eq_true rfl) hq ?_
  refine st_if_eq (tg := 29) (pc := 18) hC dX11_coin_18 (by decide) (ite_im h (fun h => ?_) (fun h => ?_))
  · refine st_aload_n (pc := 29) hC dX11_coin_29 rfl (by decide) (by decide) ?_
    refine st_iconst (pc := 30) hC dX11_coin_30 (by decide) ?_
    obtain ⟨v3, σ3, hq, h⟩ := h
    refine st_invV (As := [iV 1]) (v := [iV v3]) (S := []) (pc := 31) hC dX11_coin_31 cl_11_178 rfl rfl (Nat.le_of_ble_eq_true rfl) cr_X11_fails hq ?_
    exact st_ireturn (pc := 34) hC dX11_coin_34 trivial h
  · refine st_aload_n (pc := 21) hC dX11_coin_21 rfl (by decide) (by decide) ?_
    refine st_iload_n (pc := 22) hC dX11_coin_22 rfl ?_
    obtain ⟨v4, hq, h⟩ := h
    refine st_invV (As := [iV x1]) (v := [iV v4]) (S := []) (pc := 23) hC dX11_coin_23 cl_11_200 rfl rfl (Nat.le_of_ble_eq_true rfl) cr_X11_prime hq ?_
    refine st_goto (tg := 34) (pc := 26) hC dX11_coin_26 (by decide) ?_
    exact st_ireturn (pc := 34) hC dX11_coin_34 trivial h
theorem bX11_has_0 {C : Nat → List Vv → Sg → Rs → Sg → Prop} {X : Nat → List Vv → List Vv → Sg → Prop} {Xr : List Vv → Sg → Prop} {Xt : Nat → Sg → Prop} (hC : Clo C 11 cX11_has (some .int) X Xr Xt) {x1 x2 : Int} {σ : Sg} (h : ∃ v1 : Int, C MX11_isPerson [rV 20 66, lV x1] (upS σ 66 5 0) (.inl [iV v1]) (upS σ 66 5 0) ∧ (if v1 = 0 then (∃ v2 : Int, ∃ σ2 : Sg, C MX11_fails [rV 20 66, iV 1] (upS σ 66 5 0) (.inl [iV v2]) σ2 ∧ (Xr [iV v2] σ2)) else (∃ v3 : Int, C MX11_coinOf [rV 1000181 67, lV x2] (upS σ 66 5 0) (.inl [iV v3]) (upS σ 66 5 0) ∧ (if v3 = (-1) then (Xr [iV 0] (upS σ 66 5 0)) else (∃ v4 : Int, C MX11_of [rV 20 66, iV x1, iV v3] (upS σ 66 5 0) (.inl [iV v4]) (upS σ 66 5 0) ∧ (Xr [iV v4] (upS σ 66 5 0))))))) : X 0 [rV 20 66, iV x1, iV x2, uV] [] σ := by
  refine st_aload_n (pc := 0) hC dX11_has_0 rfl (by decide) (by decide) ?_
  refine st_iconst (pc := 1) hC dX11_has_1 (by decide) ?_
  refine st_putfI (ci := 10) (f := 5) (pc := 2) hC dX11_has_2 fl_11_64 rfl rfl ?_
  refine st_aload_n (pc := 5) hC dX11_has_5 rfl (by decide) (by decide) ?_
  refine st_iload_n (pc := 6) hC dX11_has_6 rfl ?_
  refine st_i2l (pc := 7) hC dX11_has_7 ?_
  obtain ⟨v1, hq, h⟩ := h
  refine st_invV (As := [lV x1]) (v := [iV v1]) (S := []) (pc := 8) hC dX11_has_8 cl_11_203 rfl rfl (Nat.le_of_ble_eq_true rfl) cr_X11_isPerson hq ?_
  refine st_if_ne (tg := 20) (pc := 11) hC dX11_has_11 (by decide) (ite_im h (fun h => ?_) (fun h => ?_))
  · refine st_aload_n (pc := 14) hC dX11_has_14 rfl (by decide) (by decide) ?_
    refine st_iconst (pc := 15) hC dX11_has_15 (by decide) ?_
    obtain ⟨v2, σ2, hq, h⟩ := h
    refine st_invV (As := [iV 1]) (v := [iV v2]) (S := []) (pc := 16) hC dX11_has_16 cl_11_178 rfl rfl (Nat.le_of_ble_eq_true rfl) cr_X11_fails hq ?_
    exact st_ireturn (pc := 19) hC dX11_has_19 trivial h
  · refine st_aload_n (pc := 20) hC dX11_has_20 rfl (by decide) (by decide) ?_
    refine st_getf (ci := 10) (f := 0) (v := rV 1000181 67) (pc := 21) hC dX11_has_21 fl_11_9 rfl rfl ?_
    refine st_iload_n (pc := 24) hC dX11_has_24 rfl ?_
    refine st_i2l (pc := 25) hC dX11_has_25 ?_
    obtain ⟨v3, hq, h⟩ := h
    refine st_invS (As := [rV 1000181 67, lV x2]) (v := [iV v3]) (S := []) (pc := 26) hC dX11_has_26 cl_11_140 rfl rfl (Nat.le_of_ble_eq_true rfl) hq ?_
    refine st_istore_n (L2 := [rV 20 66, iV x1, iV x2, iV v3]) (pc := 29) hC dX11_has_29 (Nat.le_of_ble_eq_true rfl) rfl ?_
    refine st_iload_n (pc := 30) hC dX11_has_30 rfl ?_
    refine st_iconst (pc := 31) hC dX11_has_31 (by decide) ?_
    refine st_icmp_ne (tg := 39) (pc := 32) hC dX11_has_32 (by decide) (ite_im h (fun h => ?_) (fun h => ?_))
    · refine st_iconst (pc := 35) hC dX11_has_35 (by decide) ?_
      refine st_goto (tg := 45) (pc := 36) hC dX11_has_36 (by decide) ?_
      exact st_ireturn (pc := 45) hC dX11_has_45 trivial h
    · refine st_aload_n (pc := 39) hC dX11_has_39 rfl (by decide) (by decide) ?_
      refine st_iload_n (pc := 40) hC dX11_has_40 rfl ?_
      refine st_iload_n (pc := 41) hC dX11_has_41 rfl ?_
      obtain ⟨v4, hq, h⟩ := h
      refine st_invV (As := [iV x1, iV v3]) (v := [iV v4]) (S := []) (pc := 42) hC dX11_has_42 cl_11_196 rfl rfl (Nat.le_of_ble_eq_true rfl) cr_X11_of hq ?_
      exact st_ireturn (pc := 45) hC dX11_has_45 trivial h
theorem bX11_purse_0 {C : Nat → List Vv → Sg → Rs → Sg → Prop} {X : Nat → List Vv → List Vv → Sg → Prop} {Xr : List Vv → Sg → Prop} {Xt : Nat → Sg → Prop} (hC : Clo C 11 cX11_purse (some .int) X Xr Xt) {x1 x2 : Int} {σ : Sg} (h : ∃ v1 : Int, C MX11_isPerson [rV 20 66, lV x1] σ (.inl [iV v1]) σ ∧ (if v1 = 0 then (if (0 : Int) < ((upS σ 66 5 1) 66 5) then (Xr [iV 0] (upS σ 66 5 1)) else (X 54 [rV 20 66, iV x1, iV x2, iV 0, iV 1, iV 1, iV 0] [] (upS σ 66 5 1))) else (∃ v2 : Int, C MX11_within [lV x2, lV 0, lV 3] σ (.inl [iV v2]) σ ∧ (if v2 = 0 then (if (0 : Int) < ((upS σ 66 5 2) 66 5) then (Xr [iV 0] (upS σ 66 5 2)) else (X 54 [rV 20 66, iV x1, iV x2, iV 0, iV 1, iV 1, iV 0] [] (upS σ 66 5 2))) else (if (0 : Int) < ((upS σ 66 5 0) 66 5) then (Xr [iV 0] (upS σ 66 5 0)) else (X 54 [rV 20 66, iV x1, iV x2, iV 0, iV 1, iV 1, iV 0] [] (upS σ 66 5 0))))))) : X 0 [rV 20 66, iV x1, iV x2, uV, uV, uV, uV] [] σ := by
  refine st_aload_n (pc := 0) hC dX11_purse_0 rfl (by decide) (by decide) ?_
  refine st_aload_n (pc := 1) hC dX11_purse_1 rfl (by decide) (by decide) ?_
  refine st_iload_n (pc := 2) hC dX11_purse_2 rfl ?_
  refine st_i2l (pc := 3) hC dX11_purse_3 ?_
  obtain ⟨v1, hq, h⟩ := h
  refine st_invV (As := [lV x1]) (v := [iV v1]) (S := [rV 20 66]) (pc := 4) hC dX11_purse_4 cl_11_203 rfl rfl (Nat.le_of_ble_eq_true rfl) cr_X11_isPerson hq ?_
  refine st_if_ne (tg := 14) (pc := 7) hC dX11_purse_7 (by decide) (ite_im h (fun h => ?_) (fun h => ?_))
  · refine st_iconst (pc := 10) hC dX11_purse_10 (by decide) ?_
    refine st_goto (tg := 31) (pc := 11) hC dX11_purse_11 (by decide) ?_
    refine st_putfI (ci := 10) (f := 5) (pc := 31) hC dX11_purse_31 fl_11_64 rfl rfl ?_
    refine st_aload_n (pc := 34) hC dX11_purse_34 rfl (by decide) (by decide) ?_
    refine st_getf (ci := 10) (f := 5) (v := iV ((upS σ 66 5 1) 66 5)) (pc := 35) hC dX11_purse_35 fl_11_64 rfl rfl ?_
    refine st_if_le (tg := 43) (pc := 38) hC dX11_purse_38 (by decide) (ite_im h (fun h => ?_) (fun h => ?_))
    · refine st_iconst (pc := 41) hC dX11_purse_41 (by decide) ?_
      exact st_ireturn (pc := 42) hC dX11_purse_42 trivial h
    · refine st_iconst (pc := 43) hC dX11_purse_43 (by decide) ?_
      refine st_istore_n (L2 := [rV 20 66, iV x1, iV x2, iV 0, uV, uV, uV]) (pc := 44) hC dX11_purse_44 (Nat.le_of_ble_eq_true rfl) rfl ?_
      refine st_iconst (pc := 45) hC dX11_purse_45 (by decide) ?_
      refine st_istore (L2 := [rV 20 66, iV x1, iV x2, iV 0, iV 1, uV, uV]) (pc := 46) hC dX11_purse_46 (Nat.le_of_ble_eq_true rfl) rfl ?_
      refine st_iconst (pc := 48) hC dX11_purse_48 (by decide) ?_
      refine st_istore (L2 := [rV 20 66, iV x1, iV x2, iV 0, iV 1, iV 1, uV]) (pc := 49) hC dX11_purse_49 (Nat.le_of_ble_eq_true rfl) rfl ?_
      refine st_iconst (pc := 51) hC dX11_purse_51 (by decide) ?_
      refine st_istore (L2 := [rV 20 66, iV x1, iV x2, iV 0, iV 1, iV 1, iV 0]) (pc := 52) hC dX11_purse_52 (Nat.le_of_ble_eq_true rfl) rfl ?_
      exact h
  · refine st_iload_n (pc := 14) hC dX11_purse_14 rfl ?_
    refine st_i2l (pc := 15) hC dX11_purse_15 ?_
    refine st_lconst0 (pc := 16) hC dX11_purse_16 ?_
    refine st_ldc2 (pc := 17) hC dX11_purse_17 rfl ?_
    obtain ⟨v2, hq, h⟩ := h
    refine st_invS (As := [lV x2, lV 0, lV 3]) (v := [iV v2]) (S := [rV 20 66]) (pc := 20) hC dX11_purse_20 cl_11_133 rfl rfl (Nat.le_of_ble_eq_true rfl) hq ?_
    refine st_if_eq (tg := 30) (pc := 23) hC dX11_purse_23 (by decide) (ite_im h (fun h => ?_) (fun h => ?_))
    · refine st_iconst (pc := 30) hC dX11_purse_30 (by decide) ?_
      refine st_putfI (ci := 10) (f := 5) (pc := 31) hC dX11_purse_31 fl_11_64 rfl rfl ?_
      refine st_aload_n (pc := 34) hC dX11_purse_34 rfl (by decide) (by decide) ?_
      refine st_getf (ci := 10) (f := 5) (v := iV ((upS σ 66 5 2) 66 5)) (pc := 35) hC dX11_purse_35 fl_11_64 rfl rfl ?_
      refine st_if_le (tg := 43) (pc := 38) hC dX11_purse_38 (by decide) (ite_im h (fun h => ?_) (fun h => ?_))
      · refine st_iconst (pc := 41) hC dX11_purse_41 (by decide) ?_
        exact st_ireturn (pc := 42) hC dX11_purse_42 trivial h
      · refine st_iconst (pc := 43) hC dX11_purse_43 (by decide) ?_
        refine st_istore_n (L2 := [rV 20 66, iV x1, iV x2, iV 0, uV, uV, uV]) (pc := 44) hC dX11_purse_44 (Nat.le_of_ble_eq_true rfl) rfl ?_
        refine st_iconst (pc := 45) hC dX11_purse_45 (by decide) ?_
        refine st_istore (L2 := [rV 20 66, iV x1, iV x2, iV 0, iV 1, uV, uV]) (pc := 46) hC dX11_purse_46 (Nat.le_of_ble_eq_true rfl) rfl ?_
        refine st_iconst (pc := 48) hC dX11_purse_48 (by decide) ?_
        refine st_istore (L2 := [rV 20 66, iV x1, iV x2, iV 0, iV 1, iV 1, uV]) (pc := 49) hC dX11_purse_49 (Nat.le_of_ble_eq_true rfl) rfl ?_
        refine st_iconst (pc := 51) hC dX11_purse_51 (by decide) ?_
        refine st_istore (L2 := [rV 20 66, iV x1, iV x2, iV 0, iV 1, iV 1, iV 0]) (pc := 52) hC dX11_purse_52 (Nat.le_of_ble_eq_true rfl) rfl ?_
        exact h
    · refine st_iconst (pc := 26) hC dX11_purse_26 (by decide) ?_
      refine st_goto (tg := 31) (pc := 27) hC dX11_purse_27 (by decide) ?_
      refine st_putfI (ci := 10) (f := 5) (pc := 31) hC dX11_purse_31 fl_11_64 rfl rfl ?_
      refine st_aload_n (pc := 34) hC dX11_purse_34 rfl (by decide) (by decide) ?_
      refine st_getf (ci := 10) (f := 5) (v := iV ((upS σ 66 5 0) 66 5)) (pc := 35) hC dX11_purse_35 fl_11_64 rfl rfl ?_
      refine st_if_le (tg := 43) (pc := 38) hC dX11_purse_38 (by decide) (ite_im h (fun h => ?_) (fun h => ?_))
      · refine st_iconst (pc := 41) hC dX11_purse_41 (by decide) ?_
        exact st_ireturn (pc := 42) hC dX11_purse_42 trivial h
      · refine st_iconst (pc := 43) hC dX11_purse_43 (by decide) ?_
        refine st_istore_n (L2 := [rV 20 66, iV x1, iV x2, iV 0, uV, uV, uV]) (pc := 44) hC dX11_purse_44 (Nat.le_of_ble_eq_true rfl) rfl ?_
        refine st_iconst (pc := 45) hC dX11_purse_45 (by decide) ?_
        refine st_istore (L2 := [rV 20 66, iV x1, iV x2, iV 0, iV 1, uV, uV]) (pc := 46) hC dX11_purse_46 (Nat.le_of_ble_eq_true rfl) rfl ?_
        refine st_iconst (pc := 48) hC dX11_purse_48 (by decide) ?_
        refine st_istore (L2 := [rV 20 66, iV x1, iV x2, iV 0, iV 1, iV 1, uV]) (pc := 49) hC dX11_purse_49 (Nat.le_of_ble_eq_true rfl) rfl ?_
        refine st_iconst (pc := 51) hC dX11_purse_51 (by decide) ?_
        refine st_istore (L2 := [rV 20 66, iV x1, iV x2, iV 0, iV 1, iV 1, iV 0]) (pc := 52) hC dX11_purse_52 (Nat.le_of_ble_eq_true rfl) rfl ?_
        exact h
theorem bX11_purse_54 {C : Nat → List Vv → Sg → Rs → Sg → Prop} {X : Nat → List Vv → List Vv → Sg → Prop} {Xr : List Vv → Sg → Prop} {Xt : Nat → Sg → Prop} (hC : Clo C 11 cX11_purse (some .int) X Xr Xt) {x1 x2 x3 x4 x5 x6 : Int} {σ : Sg} (h : ∃ v1 : Int, C MX11_coins [rV 20 66] σ (.inl [iV v1]) σ ∧ (if x6 < v1 then (∃ v2 : Int, C MX11_of [rV 20 66, iV x1, iV x6] σ (.inl [iV v2]) σ ∧ (if v2 = 0 then (X 54 [rV 20 66, iV x1, iV x2, iV x3, iV x4, iV x5, iV (w32 (x6 + 1))] [] σ) else (∃ v3 : Int, C MX11_prime [rV 20 66, iV x6] σ (.inl [iV v3]) σ ∧ (if x5 = 1 then (∃ v4 : Int, C MX11_prime [rV 20 66, iV x6] σ (.inl [iV v4]) σ ∧ (X 54 [rV 20 66, iV x1, iV x2, iV (w32 (x3 + 1)), iV (max x4 v3), iV v4, iV (w32 (x6 + 1))] [] σ)) else (∃ v5 : Int, C MX11_prime [rV 20 66, iV x6] σ (.inl [iV v5]) σ ∧ (X 54 [rV 20 66, iV x1, iV x2, iV (w32 (x3 + 1)), iV (max x4 v3), iV (min x5 v5), iV (w32 (x6 + 1))] [] σ)))))) else (if x2 = 0 then (∃ v6 : Int, C MX11_size [rV 20 66, iV x1] σ (.inl [iV v6]) σ ∧ (Xr [iV v6] σ)) else (if x2 = 1 then (Xr [iV x3] σ) else (if x2 = 2 then (Xr [iV x4] σ) else (Xr [iV x5] σ)))))) : X 54 [rV 20 66, iV x1, iV x2, iV x3, iV x4, iV x5, iV x6] [] σ := by
  refine st_iload (pc := 54) hC dX11_purse_54 rfl ?_
  refine st_aload_n (pc := 56) hC dX11_purse_56 rfl (by decide) (by decide) ?_
  obtain ⟨v1, hq, h⟩ := h
  refine st_invV (As := []) (v := [iV v1]) (S := [iV x6]) (pc := 57) hC dX11_purse_57 cl_11_193 rfl rfl (Nat.le_of_ble_eq_true rfl) cr_X11_coins hq ?_
  refine st_icmp_ge (tg := 126) (pc := 60) hC dX11_purse_60 (by decide) (ite_im h (fun h => ?_) (fun h => ?_))
  · refine st_aload_n (pc := 63) hC dX11_purse_63 rfl (by decide) (by decide) ?_
    refine st_iload_n (pc := 64) hC dX11_purse_64 rfl ?_
    refine st_iload (pc := 65) hC dX11_purse_65 rfl ?_
    obtain ⟨v2, hq, h⟩ := h
    refine st_invV (As := [iV x1, iV x6]) (v := [iV v2]) (S := []) (pc := 67) hC dX11_purse_67 cl_11_196 rfl rfl (Nat.le_of_ble_eq_true rfl) cr_X11_of hq ?_
    refine st_if_ne (tg := 76) (pc := 70) hC dX11_purse_70 (by decide) (ite_im h (fun h => ?_) (fun h => ?_))
    · refine st_goto (tg := 120) (pc := 73) hC dX11_purse_73 (by decide) ?_
      refine st_iinc (L2 := [rV 20 66, iV x1, iV x2, iV x3, iV x4, iV x5, iV (w32 (x6 + 1))]) (pc := 120) hC dX11_purse_120 rfl (Nat.le_of_ble_eq_true rfl) rfl ?_
      refine st_goto (tg := 54) (pc := 123) hC dX11_purse_123 (by decide) ?_
      exact h
    · refine st_iinc (L2 := [rV 20 66, iV x1, iV x2, iV (w32 (x3 + 1)), iV x4, iV x5, iV x6]) (pc := 76) hC dX11_purse_76 rfl (Nat.le_of_ble_eq_true rfl) rfl ?_
      refine st_iload (pc := 79) hC dX11_purse_79 rfl ?_
      refine st_aload_n (pc := 81) hC dX11_purse_81 rfl (by decide) (by decide) ?_
      refine st_iload (pc := 82) hC dX11_purse_82 rfl ?_
      obtain ⟨v3, hq, h⟩ := h
      refine st_invV (As := [iV x6]) (v := [iV v3]) (S := [iV x4]) (pc := 84) hC dX11_purse_84 cl_11_200 rfl rfl (Nat.le_of_ble_eq_true rfl) cr_X11_prime hq ?_
      refine st_mmax (pc := 87) hC dX11_purse_87 rfl (Nat.le_of_ble_eq_true rfl) ?_
      refine st_istore (L2 := [rV 20 66, iV x1, iV x2, iV (w32 (x3 + 1)), iV (max x4 v3), iV x5, iV x6]) (pc := 90) hC dX11_purse_90 (Nat.le_of_ble_eq_true rfl) rfl ?_
      refine st_iload (pc := 92) hC dX11_purse_92 rfl ?_
      refine st_iconst (pc := 94) hC dX11_purse_94 (by decide) ?_
      refine st_icmp_ne (tg := 107) (pc := 95) hC dX11_purse_95 (by decide) (ite_im h (fun h => ?_) (fun h => ?_))
      · refine st_aload_n (pc := 98) hC dX11_purse_98 rfl (by decide) (by decide) ?_
        refine st_iload (pc := 99) hC dX11_purse_99 rfl ?_
        obtain ⟨v4, hq, h⟩ := h
        refine st_invV (As := [iV x6]) (v := [iV v4]) (S := []) (pc := 101) hC dX11_purse_101 cl_11_200 rfl rfl (Nat.le_of_ble_eq_true rfl) cr_X11_prime hq ?_
        refine st_goto (tg := 118) (pc := 104) hC dX11_purse_104 (by decide) ?_
        refine st_istore (L2 := [rV 20 66, iV x1, iV x2, iV (w32 (x3 + 1)), iV (max x4 v3), iV v4, iV x6]) (pc := 118) hC dX11_purse_118 (Nat.le_of_ble_eq_true rfl) rfl ?_
        refine st_iinc (L2 := [rV 20 66, iV x1, iV x2, iV (w32 (x3 + 1)), iV (max x4 v3), iV v4, iV (w32 (x6 + 1))]) (pc := 120) hC dX11_purse_120 rfl (Nat.le_of_ble_eq_true rfl) rfl ?_
        refine st_goto (tg := 54) (pc := 123) hC dX11_purse_123 (by decide) ?_
        exact h
      · refine st_iload (pc := 107) hC dX11_purse_107 rfl ?_
        refine st_aload_n (pc := 109) hC dX11_purse_109 rfl (by decide) (by decide) ?_
        refine st_iload (pc := 110) hC dX11_purse_110 rfl ?_
        obtain ⟨v5, hq, h⟩ := h
        refine st_invV (As := [iV x6]) (v := [iV v5]) (S := [iV x5]) (pc := 112) hC dX11_purse_112 cl_11_200 rfl rfl (Nat.le_of_ble_eq_true rfl) cr_X11_prime hq ?_
        refine st_mmin (pc := 115) hC dX11_purse_115 rfl (Nat.le_of_ble_eq_true rfl) ?_
        refine st_istore (L2 := [rV 20 66, iV x1, iV x2, iV (w32 (x3 + 1)), iV (max x4 v3), iV (min x5 v5), iV x6]) (pc := 118) hC dX11_purse_118 (Nat.le_of_ble_eq_true rfl) rfl ?_
        refine st_iinc (L2 := [rV 20 66, iV x1, iV x2, iV (w32 (x3 + 1)), iV (max x4 v3), iV (min x5 v5), iV (w32 (x6 + 1))]) (pc := 120) hC dX11_purse_120 rfl (Nat.le_of_ble_eq_true rfl) rfl ?_
        refine st_goto (tg := 54) (pc := 123) hC dX11_purse_123 (by decide) ?_
        exact h
  · refine st_iload_n (pc := 126) hC dX11_purse_126 rfl ?_
    refine st_if_ne (tg := 138) (pc := 127) hC dX11_purse_127 (by decide) (ite_im h (fun h => ?_) (fun h => ?_))
    · refine st_aload_n (pc := 130) hC dX11_purse_130 rfl (by decide) (by decide) ?_
      refine st_iload_n (pc := 131) hC dX11_purse_131 rfl ?_
      obtain ⟨v6, hq, h⟩ := h
      refine st_invV (As := [iV x1]) (v := [iV v6]) (S := []) (pc := 132) hC dX11_purse_132 cl_11_217 rfl rfl (Nat.le_of_ble_eq_true rfl) cr_X11_size hq ?_
      refine st_goto (tg := 159) (pc := 135) hC dX11_purse_135 (by decide) ?_
      exact st_ireturn (pc := 159) hC dX11_purse_159 trivial h
    · refine st_iload_n (pc := 138) hC dX11_purse_138 rfl ?_
      refine st_iconst (pc := 139) hC dX11_purse_139 (by decide) ?_
      refine st_icmp_ne (tg := 147) (pc := 140) hC dX11_purse_140 (by decide) (ite_im h (fun h => ?_) (fun h => ?_))
      · refine st_iload_n (pc := 143) hC dX11_purse_143 rfl ?_
        refine st_goto (tg := 159) (pc := 144) hC dX11_purse_144 (by decide) ?_
        exact st_ireturn (pc := 159) hC dX11_purse_159 trivial h
      · refine st_iload_n (pc := 147) hC dX11_purse_147 rfl ?_
        refine st_iconst (pc := 148) hC dX11_purse_148 (by decide) ?_
        refine st_icmp_ne (tg := 157) (pc := 149) hC dX11_purse_149 (by decide) (ite_im h (fun h => ?_) (fun h => ?_))
        · refine st_iload (pc := 152) hC dX11_purse_152 rfl ?_
          refine st_goto (tg := 159) (pc := 154) hC dX11_purse_154 (by decide) ?_
          exact st_ireturn (pc := 159) hC dX11_purse_159 trivial h
        · refine st_iload (pc := 157) hC dX11_purse_157 rfl ?_
          exact st_ireturn (pc := 159) hC dX11_purse_159 trivial h
theorem bX11_worth_0 {C : Nat → List Vv → Sg → Rs → Sg → Prop} {X : Nat → List Vv → List Vv → Sg → Prop} {Xr : List Vv → Sg → Prop} {Xt : Nat → Sg → Prop} (hC : Clo C 11 cX11_worth (some .long) X Xr Xt) {x1 : Int} {σ : Sg} (h : ∃ v1 : Int, C MX11_isPerson [rV 20 66, lV x1] (upS σ 66 5 0) (.inl [iV v1]) (upS σ 66 5 0) ∧ (if v1 = 0 then (∃ v2 : Int, ∃ σ2 : Sg, C MX11_fails [rV 20 66, iV 1] (upS σ 66 5 0) (.inl [iV v2]) σ2 ∧ (Xr [lV v2] σ2)) else (∃ v3 : Int, C MX11_worthOf [rV 20 66, iV x1] (upS σ 66 5 0) (.inl [lV v3]) (upS σ 66 5 0) ∧ (Xr [lV v3] (upS σ 66 5 0))))) : X 0 [rV 20 66, iV x1] [] σ := by
  refine st_aload_n (pc := 0) hC dX11_worth_0 rfl (by decide) (by decide) ?_
  refine st_iconst (pc := 1) hC dX11_worth_1 (by decide) ?_
  refine st_putfI (ci := 10) (f := 5) (pc := 2) hC dX11_worth_2 fl_11_64 rfl rfl ?_
  refine st_aload_n (pc := 5) hC dX11_worth_5 rfl (by decide) (by decide) ?_
  refine st_iload_n (pc := 6) hC dX11_worth_6 rfl ?_
  refine st_i2l (pc := 7) hC dX11_worth_7 ?_
  obtain ⟨v1, hq, h⟩ := h
  refine st_invV (As := [lV x1]) (v := [iV v1]) (S := []) (pc := 8) hC dX11_worth_8 cl_11_203 rfl rfl (Nat.le_of_ble_eq_true rfl) cr_X11_isPerson hq ?_
  refine st_if_eq (tg := 22) (pc := 11) hC dX11_worth_11 (by decide) (ite_im h (fun h => ?_) (fun h => ?_))
  · refine st_aload_n (pc := 22) hC dX11_worth_22 rfl (by decide) (by decide) ?_
    refine st_iconst (pc := 23) hC dX11_worth_23 (by decide) ?_
    obtain ⟨v2, σ2, hq, h⟩ := h
    refine st_invV (As := [iV 1]) (v := [iV v2]) (S := []) (pc := 24) hC dX11_worth_24 cl_11_178 rfl rfl (Nat.le_of_ble_eq_true rfl) cr_X11_fails hq ?_
    refine st_i2l (pc := 27) hC dX11_worth_27 ?_
    exact st_lreturn (pc := 28) hC dX11_worth_28 h
  · refine st_aload_n (pc := 14) hC dX11_worth_14 rfl (by decide) (by decide) ?_
    refine st_iload_n (pc := 15) hC dX11_worth_15 rfl ?_
    obtain ⟨v3, hq, h⟩ := h
    refine st_invV (As := [iV x1]) (v := [lV v3]) (S := []) (pc := 16) hC dX11_worth_16 cl_11_220 rfl rfl (Nat.le_of_ble_eq_true rfl) cr_X11_worthOf hq ?_
    refine st_goto (tg := 28) (pc := 19) hC dX11_worth_19 (by decide) ?_
    exact st_lreturn (pc := 28) hC dX11_worth_28 h
theorem bX11_change_0 {C : Nat → List Vv → Sg → Rs → Sg → Prop} {X : Nat → List Vv → List Vv → Sg → Prop} {Xr : List Vv → Sg → Prop} {Xt : Nat → Sg → Prop} (hC : Clo C 11 cX11_change (some .int) X Xr Xt) {x1 x2 : Int} {σ : Sg} (h : ∃ v1 : Int, C MX11_within [lV x1, lV 0, lV (w32 ((σ 67 3) - 1))] σ (.inl [iV v1]) σ ∧ (if v1 = 0 then (if (0 : Int) < ((upS σ 66 5 1) 66 5) then (Xr [iV 0] (upS σ 66 5 1)) else (X 55 [rV 20 66, iV x1, iV x2, iV 1, iV 0, uV] [] (upS σ 66 5 1))) else (∃ v2 : Int, C MX11_within [lV x2, lV 0, lV 1] σ (.inl [iV v2]) σ ∧ (if v2 = 0 then (if (0 : Int) < ((upS σ 66 5 2) 66 5) then (Xr [iV 0] (upS σ 66 5 2)) else (X 55 [rV 20 66, iV x1, iV x2, iV 1, iV 0, uV] [] (upS σ 66 5 2))) else (if (0 : Int) < ((upS σ 66 5 0) 66 5) then (Xr [iV 0] (upS σ 66 5 0)) else (X 55 [rV 20 66, iV x1, iV x2, iV 1, iV 0, uV] [] (upS σ 66 5 0))))))) : X 0 [rV 20 66, iV x1, iV x2, uV, uV, uV] [] σ := by
  refine st_aload_n (pc := 0) hC dX11_change_0 rfl (by decide) (by decide) ?_
  refine st_iload_n (pc := 1) hC dX11_change_1 rfl ?_
  refine st_i2l (pc := 2) hC dX11_change_2 ?_
  refine st_lconst0 (pc := 3) hC dX11_change_3 ?_
  refine st_aload_n (pc := 4) hC dX11_change_4 rfl (by decide) (by decide) ?_
  refine st_getf (ci := 10) (f := 0) (v := rV 1000181 67) (pc := 5) hC dX11_change_5 fl_11_9 rfl rfl ?_
  refine st_iconst (pc := 8) hC dX11_change_8 (by decide) ?_
  refine st_iald (n := 181) (pc := 9) hC dX11_change_9 (by decide) ⟨by decide, by decide⟩ ?_
  refine st_iconst (pc := 10) hC dX11_change_10 (by decide) ?_
  refine st_isub (pc := 11) hC dX11_change_11 ?_
  refine st_i2l (pc := 12) hC dX11_change_12 ?_
  obtain ⟨v1, hq, h⟩ := h
  refine st_invS (As := [lV x1, lV 0, lV (w32 ((σ 67 3) - 1))]) (v := [iV v1]) (S := [rV 20 66]) (pc := 13) hC dX11_change_13 cl_11_133 rfl rfl (Nat.le_of_ble_eq_true rfl) hq ?_
  refine st_if_ne (tg := 23) (pc := 16) hC dX11_change_16 (by decide) (ite_im h (fun h => ?_) (fun h => ?_))
  · refine st_iconst (pc := 19) hC dX11_change_19 (by decide) ?_
    refine st_goto (tg := 38) (pc := 20) hC dX11_change_20 (by decide) ?_
    refine st_putfI (ci := 10) (f := 5) (pc := 38) hC dX11_change_38 fl_11_64 rfl rfl ?_
    refine st_aload_n (pc := 41) hC dX11_change_41 rfl (by decide) (by decide) ?_
    refine st_getf (ci := 10) (f := 5) (v := iV ((upS σ 66 5 1) 66 5)) (pc := 42) hC dX11_change_42 fl_11_64 rfl rfl ?_
    refine st_if_le (tg := 50) (pc := 45) hC dX11_change_45 (by decide) (ite_im h (fun h => ?_) (fun h => ?_))
    · refine st_iconst (pc := 48) hC dX11_change_48 (by decide) ?_
      exact st_ireturn (pc := 49) hC dX11_change_49 trivial h
    · refine st_iconst (pc := 50) hC dX11_change_50 (by decide) ?_
      refine st_istore_n (L2 := [rV 20 66, iV x1, iV x2, iV 1, uV, uV]) (pc := 51) hC dX11_change_51 (Nat.le_of_ble_eq_true rfl) rfl ?_
      refine st_iconst (pc := 52) hC dX11_change_52 (by decide) ?_
      refine st_istore (L2 := [rV 20 66, iV x1, iV x2, iV 1, iV 0, uV]) (pc := 53) hC dX11_change_53 (Nat.le_of_ble_eq_true rfl) rfl ?_
      exact h
  · refine st_iload_n (pc := 23) hC dX11_change_23 rfl ?_
    refine st_i2l (pc := 24) hC dX11_change_24 ?_
    refine st_lconst0 (pc := 25) hC dX11_change_25 ?_
    refine st_lconst1 (pc := 26) hC dX11_change_26 ?_
    obtain ⟨v2, hq, h⟩ := h
    refine st_invS (As := [lV x2, lV 0, lV 1]) (v := [iV v2]) (S := [rV 20 66]) (pc := 27) hC dX11_change_27 cl_11_133 rfl rfl (Nat.le_of_ble_eq_true rfl) hq ?_
    refine st_if_eq (tg := 37) (pc := 30) hC dX11_change_30 (by decide) (ite_im h (fun h => ?_) (fun h => ?_))
    · refine st_iconst (pc := 37) hC dX11_change_37 (by decide) ?_
      refine st_putfI (ci := 10) (f := 5) (pc := 38) hC dX11_change_38 fl_11_64 rfl rfl ?_
      refine st_aload_n (pc := 41) hC dX11_change_41 rfl (by decide) (by decide) ?_
      refine st_getf (ci := 10) (f := 5) (v := iV ((upS σ 66 5 2) 66 5)) (pc := 42) hC dX11_change_42 fl_11_64 rfl rfl ?_
      refine st_if_le (tg := 50) (pc := 45) hC dX11_change_45 (by decide) (ite_im h (fun h => ?_) (fun h => ?_))
      · refine st_iconst (pc := 48) hC dX11_change_48 (by decide) ?_
        exact st_ireturn (pc := 49) hC dX11_change_49 trivial h
      · refine st_iconst (pc := 50) hC dX11_change_50 (by decide) ?_
        refine st_istore_n (L2 := [rV 20 66, iV x1, iV x2, iV 1, uV, uV]) (pc := 51) hC dX11_change_51 (Nat.le_of_ble_eq_true rfl) rfl ?_
        refine st_iconst (pc := 52) hC dX11_change_52 (by decide) ?_
        refine st_istore (L2 := [rV 20 66, iV x1, iV x2, iV 1, iV 0, uV]) (pc := 53) hC dX11_change_53 (Nat.le_of_ble_eq_true rfl) rfl ?_
        exact h
    · refine st_iconst (pc := 33) hC dX11_change_33 (by decide) ?_
      refine st_goto (tg := 38) (pc := 34) hC dX11_change_34 (by decide) ?_
      refine st_putfI (ci := 10) (f := 5) (pc := 38) hC dX11_change_38 fl_11_64 rfl rfl ?_
      refine st_aload_n (pc := 41) hC dX11_change_41 rfl (by decide) (by decide) ?_
      refine st_getf (ci := 10) (f := 5) (v := iV ((upS σ 66 5 0) 66 5)) (pc := 42) hC dX11_change_42 fl_11_64 rfl rfl ?_
      refine st_if_le (tg := 50) (pc := 45) hC dX11_change_45 (by decide) (ite_im h (fun h => ?_) (fun h => ?_))
      · refine st_iconst (pc := 48) hC dX11_change_48 (by decide) ?_
        exact st_ireturn (pc := 49) hC dX11_change_49 trivial h
      · refine st_iconst (pc := 50) hC dX11_change_50 (by decide) ?_
        refine st_istore_n (L2 := [rV 20 66, iV x1, iV x2, iV 1, uV, uV]) (pc := 51) hC dX11_change_51 (Nat.le_of_ble_eq_true rfl) rfl ?_
        refine st_iconst (pc := 52) hC dX11_change_52 (by decide) ?_
        refine st_istore (L2 := [rV 20 66, iV x1, iV x2, iV 1, iV 0, uV]) (pc := 53) hC dX11_change_53 (Nat.le_of_ble_eq_true rfl) rfl ?_
        exact h
theorem bX11_change_55 {C : Nat → List Vv → Sg → Rs → Sg → Prop} {X : Nat → List Vv → List Vv → Sg → Prop} {Xr : List Vv → Sg → Prop} {Xt : Nat → Sg → Prop} (hC : Clo C 11 cX11_change (some .int) X Xr Xt) {x1 x2 x3 x4 : Int} {σ : Sg} (h : ∃ v1 : Int, C MX11_coins [rV 20 66] σ (.inl [iV v1]) σ ∧ (if x4 < v1 then (X 67 [rV 20 66, iV x1, iV x2, iV x3, iV x4, iV 0] [] σ) else (Xr [iV x3] σ))) : X 55 [rV 20 66, iV x1, iV x2, iV x3, iV x4, uV] [] σ := by
  refine st_iload (pc := 55) hC dX11_change_55 rfl ?_
  refine st_aload_n (pc := 57) hC dX11_change_57 rfl (by decide) (by decide) ?_
  obtain ⟨v1, hq, h⟩ := h
  refine st_invV (As := []) (v := [iV v1]) (S := [iV x4]) (pc := 58) hC dX11_change_58 cl_11_193 rfl rfl (Nat.le_of_ble_eq_true rfl) cr_X11_coins hq ?_
  refine st_icmp_ge (tg := 113) (pc := 61) hC dX11_change_61 (by decide) (ite_im h (fun h => ?_) (fun h => ?_))
  · refine st_iconst (pc := 64) hC dX11_change_64 (by decide) ?_
    refine st_istore (L2 := [rV 20 66, iV x1, iV x2, iV x3, iV x4, iV 0]) (pc := 65) hC dX11_change_65 (Nat.le_of_ble_eq_true rfl) rfl ?_
    exact h
  · refine st_iload_n (pc := 113) hC dX11_change_113 rfl ?_
    exact st_ireturn (pc := 114) hC dX11_change_114 trivial h
theorem bX11_change_67 {C : Nat → List Vv → Sg → Rs → Sg → Prop} {X : Nat → List Vv → List Vv → Sg → Prop} {Xr : List Vv → Sg → Prop} {Xt : Nat → Sg → Prop} (hC : Clo C 11 cX11_change (some .int) X Xr Xt) {x1 x2 x3 x4 x5 : Int} {σ : Sg} (h : (0 ≤ (w32 ((w32 ((w32 (52 + (w32 (16 * x1)))) + (w32 (8 * x2)))) + x4)) ∧ (w32 ((w32 ((w32 (52 + (w32 (16 * x1)))) + (w32 (8 * x2)))) + x4)) < 181) ∧ (if x5 < (σ 67 ((w32 ((w32 ((w32 (52 + (w32 (16 * x1)))) + (w32 (8 * x2)))) + x4))).toNat) then (∃ v1 : Int, C MX11_prime [rV 20 66, iV x4] σ (.inl [iV v1]) σ ∧ (X 67 [rV 20 66, iV x1, iV x2, iV (w32 (x3 * v1)), iV x4, iV (w32 (x5 + 1))] [] σ)) else (X 55 [rV 20 66, iV x1, iV x2, iV x3, iV (w32 (x4 + 1)), uV] [] σ))) : X 67 [rV 20 66, iV x1, iV x2, iV x3, iV x4, iV x5] [] σ := by
  refine st_iload (pc := 67) hC dX11_change_67 rfl ?_
  refine st_aload_n (pc := 69) hC dX11_change_69 rfl (by decide) (by decide) ?_
  refine st_getf (ci := 10) (f := 0) (v := rV 1000181 67) (pc := 70) hC dX11_change_70 fl_11_9 rfl rfl ?_
  refine st_bipush (pc := 73) hC dX11_change_73 (by decide) ?_
  refine st_bipush (pc := 75) hC dX11_change_75 (by decide) ?_
  refine st_iload_n (pc := 77) hC dX11_change_77 rfl ?_
  refine st_imul (pc := 78) hC dX11_change_78 ?_
  refine st_iadd (pc := 79) hC dX11_change_79 ?_
  refine st_bipush (pc := 80) hC dX11_change_80 (by decide) ?_
  refine st_iload_n (pc := 82) hC dX11_change_82 rfl ?_
  refine st_imul (pc := 83) hC dX11_change_83 ?_
  refine st_iadd (pc := 84) hC dX11_change_84 ?_
  refine st_iload (pc := 85) hC dX11_change_85 rfl ?_
  refine st_iadd (pc := 87) hC dX11_change_87 ?_
  obtain ⟨hb, h⟩ := h
  refine st_iald (n := 181) (pc := 88) hC dX11_change_88 (by decide) hb ?_
  refine st_icmp_ge (tg := 107) (pc := 89) hC dX11_change_89 (by decide) (ite_im h (fun h => ?_) (fun h => ?_))
  · refine st_iload_n (pc := 92) hC dX11_change_92 rfl ?_
    refine st_aload_n (pc := 93) hC dX11_change_93 rfl (by decide) (by decide) ?_
    refine st_iload (pc := 94) hC dX11_change_94 rfl ?_
    obtain ⟨v1, hq, h⟩ := h
    refine st_invV (As := [iV x4]) (v := [iV v1]) (S := [iV x3]) (pc := 96) hC dX11_change_96 cl_11_200 rfl rfl (Nat.le_of_ble_eq_true rfl) cr_X11_prime hq ?_
    refine st_imul (pc := 99) hC dX11_change_99 ?_
    refine st_istore_n (L2 := [rV 20 66, iV x1, iV x2, iV (w32 (x3 * v1)), iV x4, iV x5]) (pc := 100) hC dX11_change_100 (Nat.le_of_ble_eq_true rfl) rfl ?_
    refine st_iinc (L2 := [rV 20 66, iV x1, iV x2, iV (w32 (x3 * v1)), iV x4, iV (w32 (x5 + 1))]) (pc := 101) hC dX11_change_101 rfl (Nat.le_of_ble_eq_true rfl) rfl ?_
    refine st_goto (tg := 67) (pc := 104) hC dX11_change_104 (by decide) ?_
    exact h
  · refine st_iinc (L2 := [rV 20 66, iV x1, iV x2, iV x3, iV (w32 (x4 + 1)), iV x5]) (pc := 107) hC dX11_change_107 rfl (Nat.le_of_ble_eq_true rfl) rfl ?_
    refine st_goto (tg := 55) (pc := 110) hC dX11_change_110 (by decide) ?_
    exact st_fg (L2 := [rV 20 66, iV x1, iV x2, iV x3, iV (w32 (x4 + 1)), uV]) hC ⟨Or.inl rfl, Or.inl rfl, Or.inl rfl, Or.inl rfl, Or.inl rfl, Or.inr rfl, trivial⟩ h
theorem bX11_laysPrice_0 {C : Nat → List Vv → Sg → Rs → Sg → Prop} {X : Nat → List Vv → List Vv → Sg → Prop} {Xr : List Vv → Sg → Prop} {Xt : Nat → Sg → Prop} (hC : Clo C 11 cX11_laysPrice (some .boolean) X Xr Xt) {x1 : Int} {σ : Sg} (h : if x1 < 1 then (Xr [iV 0] σ) else (X 13 [rV 20 66, lV x1, uV, lV x1, uV, iV 0] [] σ)) : X 0 [rV 20 66, lV x1, uV, uV, uV, uV] [] σ := by
  refine st_lload_n (pc := 0) hC dX11_laysPrice_0 rfl ?_
  refine st_lconst1 (pc := 1) hC dX11_laysPrice_1 ?_
  refine st_lcmp_ge (tg := 8) (pc := 2) hC dX11_laysPrice_2 dX11_laysPrice_3 (by decide) (ite_im h (fun h => ?_) (fun h => ?_))
  · refine st_iconst (pc := 6) hC dX11_laysPrice_6 (by decide) ?_
    exact st_ireturn (pc := 7) hC dX11_laysPrice_7 (Or.inl rfl) h
  · refine st_lload_n (pc := 8) hC dX11_laysPrice_8 rfl ?_
    refine st_lstore_n (L2 := [rV 20 66, lV x1, uV, lV x1, uV, uV]) (pc := 9) hC dX11_laysPrice_9 (Nat.le_of_ble_eq_true rfl) rfl ?_
    refine st_iconst (pc := 10) hC dX11_laysPrice_10 (by decide) ?_
    refine st_istore (L2 := [rV 20 66, lV x1, uV, lV x1, uV, iV 0]) (pc := 11) hC dX11_laysPrice_11 (Nat.le_of_ble_eq_true rfl) rfl ?_
    exact h
theorem bX11_laysPrice_13 {C : Nat → List Vv → Sg → Rs → Sg → Prop} {X : Nat → List Vv → List Vv → Sg → Prop} {Xr : List Vv → Sg → Prop} {Xt : Nat → Sg → Prop} (hC : Clo C 11 cX11_laysPrice (some .boolean) X Xr Xt) {x1 x3 x5 : Int} {σ : Sg} (h : if x5 < 8 then ((0 ≤ x5 ∧ x5 < 8) ∧ (X 13 [rV 20 66, lV x1, uV, lV x3, uV, iV (w32 (x5 + 1))] [] (upS σ 73 (x5).toNat 0))) else (X 37 [rV 20 66, lV x1, uV, lV x3, uV, iV 0] [] σ)) : X 13 [rV 20 66, lV x1, uV, lV x3, uV, iV x5] [] σ := by
  refine st_iload (pc := 13) hC dX11_laysPrice_13 rfl ?_
  refine st_bipush (pc := 15) hC dX11_laysPrice_15 (by decide) ?_
  refine st_icmp_ge (tg := 34) (pc := 17) hC dX11_laysPrice_17 (by decide) (ite_im h (fun h => ?_) (fun h => ?_))
  · refine st_aload_n (pc := 20) hC dX11_laysPrice_20 rfl (by decide) (by decide) ?_
    refine st_getf (ci := 10) (f := 17) (v := rV 1000008 73) (pc := 21) hC dX11_laysPrice_21 fl_11_33 rfl rfl ?_
    refine st_iload (pc := 24) hC dX11_laysPrice_24 rfl ?_
    refine st_iconst (pc := 26) hC dX11_laysPrice_26 (by decide) ?_
    obtain ⟨hb, h⟩ := h
    refine st_iast (n := 8) (pc := 27) hC dX11_laysPrice_27 (by decide) hb ?_
    refine st_iinc (L2 := [rV 20 66, lV x1, uV, lV x3, uV, iV (w32 (x5 + 1))]) (pc := 28) hC dX11_laysPrice_28 rfl (Nat.le_of_ble_eq_true rfl) rfl ?_
    refine st_goto (tg := 13) (pc := 31) hC dX11_laysPrice_31 (by decide) ?_
    exact h
  · refine st_iconst (pc := 34) hC dX11_laysPrice_34 (by decide) ?_
    refine st_istore (L2 := [rV 20 66, lV x1, uV, lV x3, uV, iV 0]) (pc := 35) hC dX11_laysPrice_35 (Nat.le_of_ble_eq_true rfl) rfl ?_
    exact h
theorem bX11_laysPrice_37 {C : Nat → List Vv → Sg → Rs → Sg → Prop} {X : Nat → List Vv → List Vv → Sg → Prop} {Xr : List Vv → Sg → Prop} {Xt : Nat → Sg → Prop} (hC : Clo C 11 cX11_laysPrice (some .boolean) X Xr Xt) {x1 x3 x5 : Int} {σ : Sg} (h : ∃ v1 : Int, C MX11_coins [rV 20 66] σ (.inl [iV v1]) σ ∧ (if x5 < v1 then (X 46 [rV 20 66, lV x1, uV, lV x3, uV, iV x5] [] σ) else (if x3 = 1 then (Xr [iV 1] σ) else (Xr [iV 0] σ)))) : X 37 [rV 20 66, lV x1, uV, lV x3, uV, iV x5] [] σ := by
  refine st_iload (pc := 37) hC dX11_laysPrice_37 rfl ?_
  refine st_aload_n (pc := 39) hC dX11_laysPrice_39 rfl (by decide) (by decide) ?_
  obtain ⟨v1, hq, h⟩ := h
  refine st_invV (As := []) (v := [iV v1]) (S := [iV x5]) (pc := 40) hC dX11_laysPrice_40 cl_11_193 rfl rfl (Nat.le_of_ble_eq_true rfl) cr_X11_coins hq ?_
  refine st_icmp_ge (tg := 90) (pc := 43) hC dX11_laysPrice_43 (by decide) (ite_im h (fun h => ?_) (fun h => ?_))
  · exact h
  · refine st_lload_n (pc := 90) hC dX11_laysPrice_90 rfl ?_
    refine st_lconst1 (pc := 91) hC dX11_laysPrice_91 ?_
    refine st_lcmp_ne (tg := 100) (pc := 92) hC dX11_laysPrice_92 dX11_laysPrice_93 (by decide) (ite_im h (fun h => ?_) (fun h => ?_))
    · refine st_iconst (pc := 96) hC dX11_laysPrice_96 (by decide) ?_
      refine st_goto (tg := 101) (pc := 97) hC dX11_laysPrice_97 (by decide) ?_
      exact st_ireturn (pc := 101) hC dX11_laysPrice_101 (Or.inr rfl) h
    · refine st_iconst (pc := 100) hC dX11_laysPrice_100 (by decide) ?_
      exact st_ireturn (pc := 101) hC dX11_laysPrice_101 (Or.inl rfl) h
theorem bX11_laysPrice_46 {C : Nat → List Vv → Sg → Rs → Sg → Prop} {X : Nat → List Vv → List Vv → Sg → Prop} {Xr : List Vv → Sg → Prop} {Xt : Nat → Sg → Prop} (hC : Clo C 11 cX11_laysPrice (some .boolean) X Xr Xt) {x1 x3 x5 : Int} {σ : Sg} (h : ∃ v1 : Int, C MX11_prime [rV 20 66, iV x5] σ (.inl [iV v1]) σ ∧ (v1 ≠ 0 ∧ (if (x3.tmod v1) = 0 then ((0 ≤ x5 ∧ x5 < 8) ∧ ((0 ≤ x5 ∧ x5 < 8) ∧ (∃ v2 : Int, C MX11_prime [rV 20 66, iV x5] (upS σ 73 (x5).toNat (w32 ((σ 73 (x5).toNat) + 1))) (.inl [iV v2]) (upS σ 73 (x5).toNat (w32 ((σ 73 (x5).toNat) + 1))) ∧ (v2 ≠ 0 ∧ (X 46 [rV 20 66, lV x1, uV, lV (w64 (x3.tdiv v2)), uV, iV x5] [] (upS σ 73 (x5).toNat (w32 ((σ 73 (x5).toNat) + 1)))))))) else (X 37 [rV 20 66, lV x1, uV, lV x3, uV, iV (w32 (x5 + 1))] [] σ)))) : X 46 [rV 20 66, lV x1, uV, lV x3, uV, iV x5] [] σ := by
  refine st_lload_n (pc := 46) hC dX11_laysPrice_46 rfl ?_
  refine st_aload_n (pc := 47) hC dX11_laysPrice_47 rfl (by decide) (by decide) ?_
  refine st_iload (pc := 48) hC dX11_laysPrice_48 rfl ?_
  obtain ⟨v1, hq, h⟩ := h
  refine st_invV (As := [iV x5]) (v := [iV v1]) (S := [lV x3]) (pc := 50) hC dX11_laysPrice_50 cl_11_200 rfl rfl (Nat.le_of_ble_eq_true rfl) cr_X11_prime hq ?_
  refine st_i2l (pc := 53) hC dX11_laysPrice_53 ?_
  obtain ⟨h0, h⟩ := h
  refine st_lrem (pc := 54) hC dX11_laysPrice_54 h0 ?_
  refine st_lconst0 (pc := 55) hC dX11_laysPrice_55 ?_
  refine st_lcmp_ne (tg := 84) (pc := 56) hC dX11_laysPrice_56 dX11_laysPrice_57 (by decide) (ite_im h (fun h => ?_) (fun h => ?_))
  · refine st_aload_n (pc := 60) hC dX11_laysPrice_60 rfl (by decide) (by decide) ?_
    refine st_getf (ci := 10) (f := 17) (v := rV 1000008 73) (pc := 61) hC dX11_laysPrice_61 fl_11_33 rfl rfl ?_
    refine st_iload (pc := 64) hC dX11_laysPrice_64 rfl ?_
    refine st_dup2IR (pc := 66) hC dX11_laysPrice_66 (by decide) (by decide) ?_
    obtain ⟨hb, h⟩ := h
    refine st_iald (n := 8) (pc := 67) hC dX11_laysPrice_67 (by decide) hb ?_
    refine st_iconst (pc := 68) hC dX11_laysPrice_68 (by decide) ?_
    refine st_iadd (pc := 69) hC dX11_laysPrice_69 ?_
    obtain ⟨hb, h⟩ := h
    refine st_iast (n := 8) (pc := 70) hC dX11_laysPrice_70 (by decide) hb ?_
    refine st_lload_n (pc := 71) hC dX11_laysPrice_71 rfl ?_
    refine st_aload_n (pc := 72) hC dX11_laysPrice_72 rfl (by decide) (by decide) ?_
    refine st_iload (pc := 73) hC dX11_laysPrice_73 rfl ?_
    obtain ⟨v2, hq, h⟩ := h
    refine st_invV (As := [iV x5]) (v := [iV v2]) (S := [lV x3]) (pc := 75) hC dX11_laysPrice_75 cl_11_200 rfl rfl (Nat.le_of_ble_eq_true rfl) cr_X11_prime hq ?_
    refine st_i2l (pc := 78) hC dX11_laysPrice_78 ?_
    obtain ⟨h0, h⟩ := h
    refine st_ldiv (pc := 79) hC dX11_laysPrice_79 h0 ?_
    refine st_lstore_n (L2 := [rV 20 66, lV x1, uV, lV (w64 (x3.tdiv v2)), uV, iV x5]) (pc := 80) hC dX11_laysPrice_80 (Nat.le_of_ble_eq_true rfl) rfl ?_
    refine st_goto (tg := 46) (pc := 81) hC dX11_laysPrice_81 (by decide) ?_
    exact h
  · refine st_iinc (L2 := [rV 20 66, lV x1, uV, lV x3, uV, iV (w32 (x5 + 1))]) (pc := 84) hC dX11_laysPrice_84 rfl (Nat.le_of_ble_eq_true rfl) rfl ?_
    refine st_goto (tg := 37) (pc := 87) hC dX11_laysPrice_87 (by decide) ?_
    exact h
theorem bX11_askedMany_0 {C : Nat → List Vv → Sg → Rs → Sg → Prop} {X : Nat → List Vv → List Vv → Sg → Prop} {Xr : List Vv → Sg → Prop} {Xt : Nat → Sg → Prop} (hC : Clo C 11 cX11_askedMany (some .int) X Xr Xt) {σ : Sg} (h : X 4 [rV 20 66, iV 0, iV 0] [] σ) : X 0 [rV 20 66, uV, uV] [] σ := by
  refine st_iconst (pc := 0) hC dX11_askedMany_0 (by decide) ?_
  refine st_istore_n (L2 := [rV 20 66, iV 0, uV]) (pc := 1) hC dX11_askedMany_1 (Nat.le_of_ble_eq_true rfl) rfl ?_
  refine st_iconst (pc := 2) hC dX11_askedMany_2 (by decide) ?_
  refine st_istore_n (L2 := [rV 20 66, iV 0, iV 0]) (pc := 3) hC dX11_askedMany_3 (Nat.le_of_ble_eq_true rfl) rfl ?_
  exact h
theorem bX11_askedMany_4 {C : Nat → List Vv → Sg → Rs → Sg → Prop} {X : Nat → List Vv → List Vv → Sg → Prop} {Xr : List Vv → Sg → Prop} {Xt : Nat → Sg → Prop} (hC : Clo C 11 cX11_askedMany (some .int) X Xr Xt) {x1 x2 : Int} {σ : Sg} (h : if x2 < 8 then ((0 ≤ x2 ∧ x2 < 8) ∧ (X 4 [rV 20 66, iV (w32 (x1 + (σ 73 (x2).toNat))), iV (w32 (x2 + 1))] [] σ)) else (Xr [iV x1] σ)) : X 4 [rV 20 66, iV x1, iV x2] [] σ := by
  refine st_iload_n (pc := 4) hC dX11_askedMany_4 rfl ?_
  refine st_bipush (pc := 5) hC dX11_askedMany_5 (by decide) ?_
  refine st_icmp_ge (tg := 25) (pc := 7) hC dX11_askedMany_7 (by decide) (ite_im h (fun h => ?_) (fun h => ?_))
  · refine st_iload_n (pc := 10) hC dX11_askedMany_10 rfl ?_
    refine st_aload_n (pc := 11) hC dX11_askedMany_11 rfl (by decide) (by decide) ?_
    refine st_getf (ci := 10) (f := 17) (v := rV 1000008 73) (pc := 12) hC dX11_askedMany_12 fl_11_33 rfl rfl ?_
    refine st_iload_n (pc := 15) hC dX11_askedMany_15 rfl ?_
    obtain ⟨hb, h⟩ := h
    refine st_iald (n := 8) (pc := 16) hC dX11_askedMany_16 (by decide) hb ?_
    refine st_iadd (pc := 17) hC dX11_askedMany_17 ?_
    refine st_istore_n (L2 := [rV 20 66, iV (w32 (x1 + (σ 73 (x2).toNat))), iV x2]) (pc := 18) hC dX11_askedMany_18 (Nat.le_of_ble_eq_true rfl) rfl ?_
    refine st_iinc (L2 := [rV 20 66, iV (w32 (x1 + (σ 73 (x2).toNat))), iV (w32 (x2 + 1))]) (pc := 19) hC dX11_askedMany_19 rfl (Nat.le_of_ble_eq_true rfl) rfl ?_
    refine st_goto (tg := 4) (pc := 22) hC dX11_askedMany_22 (by decide) ?_
    exact h
  · refine st_iload_n (pc := 25) hC dX11_askedMany_25 rfl ?_
    exact st_ireturn (pc := 26) hC dX11_askedMany_26 trivial h
theorem bX11_hasAll_0 {C : Nat → List Vv → Sg → Rs → Sg → Prop} {X : Nat → List Vv → List Vv → Sg → Prop} {Xr : List Vv → Sg → Prop} {Xt : Nat → Sg → Prop} (hC : Clo C 11 cX11_hasAll (some .boolean) X Xr Xt) {x1 : Int} {σ : Sg} (h : X 2 [rV 20 66, iV x1, iV 0] [] σ) : X 0 [rV 20 66, iV x1, uV] [] σ := by
  refine st_iconst (pc := 0) hC dX11_hasAll_0 (by decide) ?_
  refine st_istore_n (L2 := [rV 20 66, iV x1, iV 0]) (pc := 1) hC dX11_hasAll_1 (Nat.le_of_ble_eq_true rfl) rfl ?_
  exact h
theorem bX11_hasAll_2 {C : Nat → List Vv → Sg → Rs → Sg → Prop} {X : Nat → List Vv → List Vv → Sg → Prop} {Xr : List Vv → Sg → Prop} {Xt : Nat → Sg → Prop} (hC : Clo C 11 cX11_hasAll (some .boolean) X Xr Xt) {x1 x2 : Int} {σ : Sg} (h : ∃ v1 : Int, C MX11_coins [rV 20 66] σ (.inl [iV v1]) σ ∧ (if x2 < v1 then (∃ v2 : Int, C MX11_of [rV 20 66, iV x1, iV x2] σ (.inl [iV v2]) σ ∧ ((0 ≤ x2 ∧ x2 < 8) ∧ (if v2 < (σ 73 (x2).toNat) then (Xr [iV 0] σ) else (X 2 [rV 20 66, iV x1, iV (w32 (x2 + 1))] [] σ)))) else (Xr [iV 1] σ))) : X 2 [rV 20 66, iV x1, iV x2] [] σ := by
  refine st_iload_n (pc := 2) hC dX11_hasAll_2 rfl ?_
  refine st_aload_n (pc := 3) hC dX11_hasAll_3 rfl (by decide) (by decide) ?_
  obtain ⟨v1, hq, h⟩ := h
  refine st_invV (As := []) (v := [iV v1]) (S := [iV x2]) (pc := 4) hC dX11_hasAll_4 cl_11_193 rfl rfl (Nat.le_of_ble_eq_true rfl) cr_X11_coins hq ?_
  refine st_icmp_ge (tg := 33) (pc := 7) hC dX11_hasAll_7 (by decide) (ite_im h (fun h => ?_) (fun h => ?_))
  · refine st_aload_n (pc := 10) hC dX11_hasAll_10 rfl (by decide) (by decide) ?_
    refine st_iload_n (pc := 11) hC dX11_hasAll_11 rfl ?_
    refine st_iload_n (pc := 12) hC dX11_hasAll_12 rfl ?_
    obtain ⟨v2, hq, h⟩ := h
    refine st_invV (As := [iV x1, iV x2]) (v := [iV v2]) (S := []) (pc := 13) hC dX11_hasAll_13 cl_11_196 rfl rfl (Nat.le_of_ble_eq_true rfl) cr_X11_of hq ?_
    refine st_aload_n (pc := 16) hC dX11_hasAll_16 rfl (by decide) (by decide) ?_
    refine st_getf (ci := 10) (f := 17) (v := rV 1000008 73) (pc := 17) hC dX11_hasAll_17 fl_11_33 rfl rfl ?_
    refine st_iload_n (pc := 20) hC dX11_hasAll_20 rfl ?_
    obtain ⟨hb, h⟩ := h
    refine st_iald (n := 8) (pc := 21) hC dX11_hasAll_21 (by decide) hb ?_
    refine st_icmp_ge (tg := 27) (pc := 22) hC dX11_hasAll_22 (by decide) (ite_im h (fun h => ?_) (fun h => ?_))
    · refine st_iconst (pc := 25) hC dX11_hasAll_25 (by decide) ?_
      exact st_ireturn (pc := 26) hC dX11_hasAll_26 (Or.inl rfl) h
    · refine st_iinc (L2 := [rV 20 66, iV x1, iV (w32 (x2 + 1))]) (pc := 27) hC dX11_hasAll_27 rfl (Nat.le_of_ble_eq_true rfl) rfl ?_
      refine st_goto (tg := 2) (pc := 30) hC dX11_hasAll_30 (by decide) ?_
      exact h
  · refine st_iconst (pc := 33) hC dX11_hasAll_33 (by decide) ?_
    exact st_ireturn (pc := 34) hC dX11_hasAll_34 (Or.inr rfl) h
theorem bX11_whyNot_0 {C : Nat → List Vv → Sg → Rs → Sg → Prop} {X : Nat → List Vv → List Vv → Sg → Prop} {Xr : List Vv → Sg → Prop} {Xt : Nat → Sg → Prop} (hC : Clo C 11 cX11_whyNot (some .int) X Xr Xt) {x1 x2 x3 : Int} {σ : Sg} (h : ∃ v1 : Int, ∃ σ1 : Sg, C MX11_laysPrice [rV 20 66, lV x3] σ (.inl [iV v1]) σ1 ∧ (if v1 = 0 then (Xr [iV 1] σ1) else (∃ v2 : Int, C MX11_hasAll [rV 20 66, iV x1] σ1 (.inl [iV v2]) σ1 ∧ (if v2 = 0 then (Xr [iV 2] σ1) else (∃ v3 : Int, C MX11_size [rV 20 66, iV x2] σ1 (.inl [iV v3]) σ1 ∧ (∃ v4 : Int, C MX11_askedMany [rV 20 66] σ1 (.inl [iV v4]) σ1 ∧ (if (9 : Int) < (w32 (v3 + v4)) then (Xr [iV 3] σ1) else (Xr [iV 0] σ1)))))))) : X 0 [rV 20 66, iV x1, iV x2, lV x3, uV] [] σ := by
  refine st_aload_n (pc := 0) hC dX11_whyNot_0 rfl (by decide) (by decide) ?_
  refine st_lload_n (pc := 1) hC dX11_whyNot_1 rfl ?_
  obtain ⟨v1, σ1, hq, h⟩ := h
  refine st_invV (As := [lV x3]) (v := [iV v1]) (S := []) (pc := 2) hC dX11_whyNot_2 cl_11_224 rfl rfl (Nat.le_of_ble_eq_true rfl) cr_X11_laysPrice hq ?_
  refine st_if_ne (tg := 10) (pc := 5) hC dX11_whyNot_5 (by decide) (ite_im h (fun h => ?_) (fun h => ?_))
  · refine st_iconst (pc := 8) hC dX11_whyNot_8 (by decide) ?_
    exact st_ireturn (pc := 9) hC dX11_whyNot_9 trivial h
  · refine st_aload_n (pc := 10) hC dX11_whyNot_10 rfl (by decide) (by decide) ?_
    refine st_iload_n (pc := 11) hC dX11_whyNot_11 rfl ?_
    obtain ⟨v2, hq, h⟩ := h
    refine st_invV (As := [iV x1]) (v := [iV v2]) (S := []) (pc := 12) hC dX11_whyNot_12 cl_11_227 rfl rfl (Nat.le_of_ble_eq_true rfl) cr_X11_hasAll hq ?_
    refine st_if_ne (tg := 22) (pc := 15) hC dX11_whyNot_15 (by decide) (ite_im h (fun h => ?_) (fun h => ?_))
    · refine st_iconst (pc := 18) hC dX11_whyNot_18 (by decide) ?_
      refine st_goto (tg := 42) (pc := 19) hC dX11_whyNot_19 (by decide) ?_
      exact st_ireturn (pc := 42) hC dX11_whyNot_42 trivial h
    · refine st_aload_n (pc := 22) hC dX11_whyNot_22 rfl (by decide) (by decide) ?_
      refine st_iload_n (pc := 23) hC dX11_whyNot_23 rfl ?_
      obtain ⟨v3, hq, h⟩ := h
      refine st_invV (As := [iV x2]) (v := [iV v3]) (S := []) (pc := 24) hC dX11_whyNot_24 cl_11_217 rfl rfl (Nat.le_of_ble_eq_true rfl) cr_X11_size hq ?_
      refine st_aload_n (pc := 27) hC dX11_whyNot_27 rfl (by decide) (by decide) ?_
      obtain ⟨v4, hq, h⟩ := h
      refine st_invV (As := []) (v := [iV v4]) (S := [iV v3]) (pc := 28) hC dX11_whyNot_28 cl_11_230 rfl rfl (Nat.le_of_ble_eq_true rfl) cr_X11_askedMany hq ?_
      refine st_iadd (pc := 31) hC dX11_whyNot_31 ?_
      refine st_bipush (pc := 32) hC dX11_whyNot_32 (by decide) ?_
      refine st_icmp_le (tg := 41) (pc := 34) hC dX11_whyNot_34 (by decide) (ite_im h (fun h => ?_) (fun h => ?_))
      · refine st_iconst (pc := 37) hC dX11_whyNot_37 (by decide) ?_
        refine st_goto (tg := 42) (pc := 38) hC dX11_whyNot_38 (by decide) ?_
        exact st_ireturn (pc := 42) hC dX11_whyNot_42 trivial h
      · refine st_iconst (pc := 41) hC dX11_whyNot_41 (by decide) ?_
        exact st_ireturn (pc := 42) hC dX11_whyNot_42 trivial h
theorem bX11_payFault_0 {C : Nat → List Vv → Sg → Rs → Sg → Prop} {X : Nat → List Vv → List Vv → Sg → Prop} {Xr : List Vv → Sg → Prop} {Xt : Nat → Sg → Prop} (hC : Clo C 11 cX11_payFault (some .int) X Xr Xt) {x1 x2 : Int} {σ : Sg} (h : ∃ v1 : Int, C MX11_isPerson [rV 20 66, lV x1] σ (.inl [iV v1]) σ ∧ (if v1 = 0 then (Xr [iV 1] σ) else (∃ v2 : Int, C MX11_isPerson [rV 20 66, lV x2] σ (.inl [iV v2]) σ ∧ (if v2 = 0 then (Xr [iV 1] σ) else (if x1 = x2 then (Xr [iV 2] σ) else (Xr [iV 0] σ)))))) : X 0 [rV 20 66, iV x1, iV x2] [] σ := by
  refine st_aload_n (pc := 0) hC dX11_payFault_0 rfl (by decide) (by decide) ?_
  refine st_iload_n (pc := 1) hC dX11_payFault_1 rfl ?_
  refine st_i2l (pc := 2) hC dX11_payFault_2 ?_
  obtain ⟨v1, hq, h⟩ := h
  refine st_invV (As := [lV x1]) (v := [iV v1]) (S := []) (pc := 3) hC dX11_payFault_3 cl_11_203 rfl rfl (Nat.le_of_ble_eq_true rfl) cr_X11_isPerson hq ?_
  refine st_if_eq (tg := 18) (pc := 6) hC dX11_payFault_6 (by decide) (ite_im h (fun h => ?_) (fun h => ?_))
  · refine st_iconst (pc := 18) hC dX11_payFault_18 (by decide) ?_
    refine st_goto (tg := 32) (pc := 19) hC dX11_payFault_19 (by decide) ?_
    exact st_ireturn (pc := 32) hC dX11_payFault_32 trivial h
  · refine st_aload_n (pc := 9) hC dX11_payFault_9 rfl (by decide) (by decide) ?_
    refine st_iload_n (pc := 10) hC dX11_payFault_10 rfl ?_
    refine st_i2l (pc := 11) hC dX11_payFault_11 ?_
    obtain ⟨v2, hq, h⟩ := h
    refine st_invV (As := [lV x2]) (v := [iV v2]) (S := []) (pc := 12) hC dX11_payFault_12 cl_11_203 rfl rfl (Nat.le_of_ble_eq_true rfl) cr_X11_isPerson hq ?_
    refine st_if_ne (tg := 22) (pc := 15) hC dX11_payFault_15 (by decide) (ite_im h (fun h => ?_) (fun h => ?_))
    · refine st_iconst (pc := 18) hC dX11_payFault_18 (by decide) ?_
      refine st_goto (tg := 32) (pc := 19) hC dX11_payFault_19 (by decide) ?_
      exact st_ireturn (pc := 32) hC dX11_payFault_32 trivial h
    · refine st_iload_n (pc := 22) hC dX11_payFault_22 rfl ?_
      refine st_iload_n (pc := 23) hC dX11_payFault_23 rfl ?_
      refine st_icmp_ne (tg := 31) (pc := 24) hC dX11_payFault_24 (by decide) (ite_im h (fun h => ?_) (fun h => ?_))
      · refine st_iconst (pc := 27) hC dX11_payFault_27 (by decide) ?_
        refine st_goto (tg := 32) (pc := 28) hC dX11_payFault_28 (by decide) ?_
        exact st_ireturn (pc := 32) hC dX11_payFault_32 trivial h
      · refine st_iconst (pc := 31) hC dX11_payFault_31 (by decide) ?_
        exact st_ireturn (pc := 32) hC dX11_payFault_32 trivial h
theorem bX11_may_0 {C : Nat → List Vv → Sg → Rs → Sg → Prop} {X : Nat → List Vv → List Vv → Sg → Prop} {Xr : List Vv → Sg → Prop} {Xt : Nat → Sg → Prop} (hC : Clo C 11 cX11_may (some .int) X Xr Xt) {x1 x2 x3 : Int} {σ : Sg} (h : ∃ v1 : Int, C MX11_payFault [rV 20 66, iV x1, iV x2] σ (.inl [iV v1]) σ ∧ (if (0 : Int) < ((upS σ 66 5 v1) 66 5) then (Xr [iV 0] (upS σ 66 5 v1)) else (∃ v2 : Int, ∃ σ2 : Sg, C MX11_whyNot [rV 20 66, iV x1, iV x2, lV x3] (upS σ 66 5 v1) (.inl [iV v2]) σ2 ∧ (Xr [iV v2] σ2)))) : X 0 [rV 20 66, iV x1, iV x2, lV x3, uV] [] σ := by
  refine st_aload_n (pc := 0) hC dX11_may_0 rfl (by decide) (by decide) ?_
  refine st_aload_n (pc := 1) hC dX11_may_1 rfl (by decide) (by decide) ?_
  refine st_iload_n (pc := 2) hC dX11_may_2 rfl ?_
  refine st_iload_n (pc := 3) hC dX11_may_3 rfl ?_
  obtain ⟨v1, hq, h⟩ := h
  refine st_invV (As := [iV x1, iV x2]) (v := [iV v1]) (S := [rV 20 66]) (pc := 4) hC dX11_may_4 cl_11_233 rfl rfl (Nat.le_of_ble_eq_true rfl) cr_X11_payFault hq ?_
  refine st_putfI (ci := 10) (f := 5) (pc := 7) hC dX11_may_7 fl_11_64 rfl rfl ?_
  refine st_aload_n (pc := 10) hC dX11_may_10 rfl (by decide) (by decide) ?_
  refine st_getf (ci := 10) (f := 5) (v := iV ((upS σ 66 5 v1) 66 5)) (pc := 11) hC dX11_may_11 fl_11_64 rfl rfl ?_
  refine st_if_le (tg := 21) (pc := 14) hC dX11_may_14 (by decide) (ite_im h (fun h => ?_) (fun h => ?_))
  · refine st_iconst (pc := 17) hC dX11_may_17 (by decide) ?_
    refine st_goto (tg := 28) (pc := 18) hC dX11_may_18 (by decide) ?_
    exact st_ireturn (pc := 28) hC dX11_may_28 trivial h
  · refine st_aload_n (pc := 21) hC dX11_may_21 rfl (by decide) (by decide) ?_
    refine st_iload_n (pc := 22) hC dX11_may_22 rfl ?_
    refine st_iload_n (pc := 23) hC dX11_may_23 rfl ?_
    refine st_lload_n (pc := 24) hC dX11_may_24 rfl ?_
    obtain ⟨v2, σ2, hq, h⟩ := h
    refine st_invV (As := [iV x1, iV x2, lV x3]) (v := [iV v2]) (S := []) (pc := 25) hC dX11_may_25 cl_11_236 rfl rfl (Nat.le_of_ble_eq_true rfl) cr_X11_whyNot hq ?_
    exact st_ireturn (pc := 28) hC dX11_may_28 trivial h
theorem bX11_pay_0 {C : Nat → List Vv → Sg → Rs → Sg → Prop} {X : Nat → List Vv → List Vv → Sg → Prop} {Xr : List Vv → Sg → Prop} {Xt : Nat → Sg → Prop} (hC : Clo C 11 cX11_pay (some .int) X Xr Xt) {x1 x2 x3 : Int} {σ : Sg} (h : ∃ v1 : Int, C MX11_payFault [rV 20 66, iV x1, iV x2] σ (.inl [iV v1]) σ ∧ (if (0 : Int) < ((upS σ 66 5 v1) 66 5) then (Xr [iV 0] (upS σ 66 5 v1)) else (∃ v2 : Int, ∃ σ2 : Sg, C MX11_whyNot [rV 20 66, iV x1, iV x2, lV x3] (upS σ 66 5 v1) (.inl [iV v2]) σ2 ∧ (if v2 = 0 then (X 40 [rV 20 66, iV x1, iV x2, lV x3, uV, iV v2, iV 0] [] σ2) else (Xr [iV (w32 (-v2))] σ2))))) : X 0 [rV 20 66, iV x1, iV x2, lV x3, uV, uV, uV] [] σ := by
  refine st_aload_n (pc := 0) hC dX11_pay_0 rfl (by decide) (by decide) ?_
  refine st_aload_n (pc := 1) hC dX11_pay_1 rfl (by decide) (by decide) ?_
  refine st_iload_n (pc := 2) hC dX11_pay_2 rfl ?_
  refine st_iload_n (pc := 3) hC dX11_pay_3 rfl ?_
  obtain ⟨v1, hq, h⟩ := h
  refine st_invV (As := [iV x1, iV x2]) (v := [iV v1]) (S := [rV 20 66]) (pc := 4) hC dX11_pay_4 cl_11_233 rfl rfl (Nat.le_of_ble_eq_true rfl) cr_X11_payFault hq ?_
  refine st_putfI (ci := 10) (f := 5) (pc := 7) hC dX11_pay_7 fl_11_64 rfl rfl ?_
  refine st_aload_n (pc := 10) hC dX11_pay_10 rfl (by decide) (by decide) ?_
  refine st_getf (ci := 10) (f := 5) (v := iV ((upS σ 66 5 v1) 66 5)) (pc := 11) hC dX11_pay_11 fl_11_64 rfl rfl ?_
  refine st_if_le (tg := 19) (pc := 14) hC dX11_pay_14 (by decide) (ite_im h (fun h => ?_) (fun h => ?_))
  · refine st_iconst (pc := 17) hC dX11_pay_17 (by decide) ?_
    exact st_ireturn (pc := 18) hC dX11_pay_18 trivial h
  · refine st_aload_n (pc := 19) hC dX11_pay_19 rfl (by decide) (by decide) ?_
    refine st_iload_n (pc := 20) hC dX11_pay_20 rfl ?_
    refine st_iload_n (pc := 21) hC dX11_pay_21 rfl ?_
    refine st_lload_n (pc := 22) hC dX11_pay_22 rfl ?_
    obtain ⟨v2, σ2, hq, h⟩ := h
    refine st_invV (As := [iV x1, iV x2, lV x3]) (v := [iV v2]) (S := []) (pc := 23) hC dX11_pay_23 cl_11_236 rfl rfl (Nat.le_of_ble_eq_true rfl) cr_X11_whyNot hq ?_
    refine st_istore (L2 := [rV 20 66, iV x1, iV x2, lV x3, uV, iV v2, uV]) (pc := 26) hC dX11_pay_26 (Nat.le_of_ble_eq_true rfl) rfl ?_
    refine st_iload (pc := 28) hC dX11_pay_28 rfl ?_
    refine st_if_eq (tg := 37) (pc := 30) hC dX11_pay_30 (by decide) (ite_im h (fun h => ?_) (fun h => ?_))
    · refine st_iconst (pc := 37) hC dX11_pay_37 (by decide) ?_
      refine st_istore (L2 := [rV 20 66, iV x1, iV x2, lV x3, uV, iV v2, iV 0]) (pc := 38) hC dX11_pay_38 (Nat.le_of_ble_eq_true rfl) rfl ?_
      exact h
    · refine st_iload (pc := 33) hC dX11_pay_33 rfl ?_
      refine st_ineg (pc := 35) hC dX11_pay_35 ?_
      exact st_ireturn (pc := 36) hC dX11_pay_36 trivial h
theorem bX11_pay_40 {C : Nat → List Vv → Sg → Rs → Sg → Prop} {X : Nat → List Vv → List Vv → Sg → Prop} {Xr : List Vv → Sg → Prop} {Xt : Nat → Sg → Prop} (hC : Clo C 11 cX11_pay (some .int) X Xr Xt) {x1 x2 x3 x5 x6 : Int} {σ : Sg} (h : ∃ v1 : Int, C MX11_coins [rV 20 66] σ (.inl [iV v1]) σ ∧ (if x6 < v1 then ((0 ≤ (w32 ((w32 (12 + (w32 (8 * x1)))) + x6)) ∧ (w32 ((w32 (12 + (w32 (8 * x1)))) + x6)) < 181) ∧ ((0 ≤ x6 ∧ x6 < 8) ∧ ((0 ≤ (w32 ((w32 (12 + (w32 (8 * x1)))) + x6)) ∧ (w32 ((w32 (12 + (w32 (8 * x1)))) + x6)) < 181) ∧ ((0 ≤ (w32 ((w32 (12 + (w32 (8 * x2)))) + x6)) ∧ (w32 ((w32 (12 + (w32 (8 * x2)))) + x6)) < 181) ∧ ((0 ≤ x6 ∧ x6 < 8) ∧ ((0 ≤ (w32 ((w32 (12 + (w32 (8 * x2)))) + x6)) ∧ (w32 ((w32 (12 + (w32 (8 * x2)))) + x6)) < 181) ∧ (X 40 [rV 20 66, iV x1, iV x2, lV x3, uV, iV x5, iV (w32 (x6 + 1))] [] (upS (upS σ 67 ((w32 ((w32 (12 + (w32 (8 * x1)))) + x6))).toNat (w32 ((σ 67 ((w32 ((w32 (12 + (w32 (8 * x1)))) + x6))).toNat) - (σ 73 (x6).toNat)))) 67 ((w32 ((w32 (12 + (w32 (8 * x2)))) + x6))).toNat (w32 (((upS σ 67 ((w32 ((w32 (12 + (w32 (8 * x1)))) + x6))).toNat (w32 ((σ 67 ((w32 ((w32 (12 + (w32 (8 * x1)))) + x6))).toNat) - (σ 73 (x6).toNat)))) 67 ((w32 ((w32 (12 + (w32 (8 * x2)))) + x6))).toNat) + ((upS σ 67 ((w32 ((w32 (12 + (w32 (8 * x1)))) + x6))).toNat (w32 ((σ 67 ((w32 ((w32 (12 + (w32 (8 * x1)))) + x6))).toNat) - (σ 73 (x6).toNat)))) 73 (x6).toNat))))))))))) else (∃ v2 : Int, C MX11_askedMany [rV 20 66] σ (.inl [iV v2]) σ ∧ (Xr [iV v2] σ)))) : X 40 [rV 20 66, iV x1, iV x2, lV x3, uV, iV x5, iV x6] [] σ := by
  refine st_iload (pc := 40) hC dX11_pay_40 rfl ?_
  refine st_aload_n (pc := 42) hC dX11_pay_42 rfl (by decide) (by decide) ?_
  obtain ⟨v1, hq, h⟩ := h
  refine st_invV (As := []) (v := [iV v1]) (S := [iV x6]) (pc := 43) hC dX11_pay_43 cl_11_193 rfl rfl (Nat.le_of_ble_eq_true rfl) cr_X11_coins hq ?_
  refine st_icmp_ge (tg := 105) (pc := 46) hC dX11_pay_46 (by decide) (ite_im h (fun h => ?_) (fun h => ?_))
  · refine st_aload_n (pc := 49) hC dX11_pay_49 rfl (by decide) (by decide) ?_
    refine st_getf (ci := 10) (f := 0) (v := rV 1000181 67) (pc := 50) hC dX11_pay_50 fl_11_9 rfl rfl ?_
    refine st_bipush (pc := 53) hC dX11_pay_53 (by decide) ?_
    refine st_bipush (pc := 55) hC dX11_pay_55 (by decide) ?_
    refine st_iload_n (pc := 57) hC dX11_pay_57 rfl ?_
    refine st_imul (pc := 58) hC dX11_pay_58 ?_
    refine st_iadd (pc := 59) hC dX11_pay_59 ?_
    refine st_iload (pc := 60) hC dX11_pay_60 rfl ?_
    refine st_iadd (pc := 62) hC dX11_pay_62 ?_
    refine st_dup2IR (pc := 63) hC dX11_pay_63 (by decide) (by decide) ?_
    obtain ⟨hb, h⟩ := h
    refine st_iald (n := 181) (pc := 64) hC dX11_pay_64 (by decide) hb ?_
    refine st_aload_n (pc := 65) hC dX11_pay_65 rfl (by decide) (by decide) ?_
    refine st_getf (ci := 10) (f := 17) (v := rV 1000008 73) (pc := 66) hC dX11_pay_66 fl_11_33 rfl rfl ?_
    refine st_iload (pc := 69) hC dX11_pay_69 rfl ?_
    obtain ⟨hb, h⟩ := h
    refine st_iald (n := 8) (pc := 71) hC dX11_pay_71 (by decide) hb ?_
    refine st_isub (pc := 72) hC dX11_pay_72 ?_
    obtain ⟨hb, h⟩ := h
    refine st_iast (n := 181) (pc := 73) hC dX11_pay_73 (by decide) hb ?_
    refine st_aload_n (pc := 74) hC dX11_pay_74 rfl (by decide) (by decide) ?_
    refine st_getf (ci := 10) (f := 0) (v := rV 1000181 67) (pc := 75) hC dX11_pay_75 fl_11_9 rfl rfl ?_
    refine st_bipush (pc := 78) hC dX11_pay_78 (by decide) ?_
    refine st_bipush (pc := 80) hC dX11_pay_80 (by decide) ?_
    refine st_iload_n (pc := 82) hC dX11_pay_82 rfl ?_
    refine st_imul (pc := 83) hC dX11_pay_83 ?_
    refine st_iadd (pc := 84) hC dX11_pay_84 ?_
    refine st_iload (pc := 85) hC dX11_pay_85 rfl ?_
    refine st_iadd (pc := 87) hC dX11_pay_87 ?_
    refine st_dup2IR (pc := 88) hC dX11_pay_88 (by decide) (by decide) ?_
    obtain ⟨hb, h⟩ := h
    refine st_iald (n := 181) (pc := 89) hC dX11_pay_89 (by decide) hb ?_
    refine st_aload_n (pc := 90) hC dX11_pay_90 rfl (by decide) (by decide) ?_
    refine st_getf (ci := 10) (f := 17) (v := rV 1000008 73) (pc := 91) hC dX11_pay_91 fl_11_33 rfl rfl ?_
    refine st_iload (pc := 94) hC dX11_pay_94 rfl ?_
    obtain ⟨hb, h⟩ := h
    refine st_iald (n := 8) (pc := 96) hC dX11_pay_96 (by decide) hb ?_
    refine st_iadd (pc := 97) hC dX11_pay_97 ?_
    obtain ⟨hb, h⟩ := h
    refine st_iast (n := 181) (pc := 98) hC dX11_pay_98 (by decide) hb ?_
    refine st_iinc (L2 := [rV 20 66, iV x1, iV x2, lV x3, uV, iV x5, iV (w32 (x6 + 1))]) (pc := 99) hC dX11_pay_99 rfl (Nat.le_of_ble_eq_true rfl) rfl ?_
    refine st_goto (tg := 40) (pc := 102) hC dX11_pay_102 (by decide) ?_
    exact h
  · refine st_aload_n (pc := 105) hC dX11_pay_105 rfl (by decide) (by decide) ?_
    obtain ⟨v2, hq, h⟩ := h
    refine st_invV (As := []) (v := [iV v2]) (S := []) (pc := 106) hC dX11_pay_106 cl_11_230 rfl rfl (Nat.le_of_ble_eq_true rfl) cr_X11_askedMany hq ?_
    exact st_ireturn (pc := 109) hC dX11_pay_109 trivial h
theorem bX11_side_0 {C : Nat → List Vv → Sg → Rs → Sg → Prop} {X : Nat → List Vv → List Vv → Sg → Prop} {Xr : List Vv → Sg → Prop} {Xt : Nat → Sg → Prop} (hC : Clo C 11 cX11_side (some .int) X Xr Xt) {x1 x2 x3 : Int} {σ : Sg} (h : (0 ≤ (w32 ((w32 ((w32 (52 + (w32 (16 * x1)))) + (w32 (8 * x2)))) + x3)) ∧ (w32 ((w32 ((w32 (52 + (w32 (16 * x1)))) + (w32 (8 * x2)))) + x3)) < 181) ∧ (Xr [iV (σ 67 ((w32 ((w32 ((w32 (52 + (w32 (16 * x1)))) + (w32 (8 * x2)))) + x3))).toNat)] σ)) : X 0 [rV 20 66, iV x1, iV x2, iV x3] [] σ := by
  refine st_aload_n (pc := 0) hC dX11_side_0 rfl (by decide) (by decide) ?_
  refine st_getf (ci := 10) (f := 0) (v := rV 1000181 67) (pc := 1) hC dX11_side_1 fl_11_9 rfl rfl ?_
  refine st_bipush (pc := 4) hC dX11_side_4 (by decide) ?_
  refine st_bipush (pc := 6) hC dX11_side_6 (by decide) ?_
  refine st_iload_n (pc := 8) hC dX11_side_8 rfl ?_
  refine st_imul (pc := 9) hC dX11_side_9 ?_
  refine st_iadd (pc := 10) hC dX11_side_10 ?_
  refine st_bipush (pc := 11) hC dX11_side_11 (by decide) ?_
  refine st_iload_n (pc := 13) hC dX11_side_13 rfl ?_
  refine st_imul (pc := 14) hC dX11_side_14 ?_
  refine st_iadd (pc := 15) hC dX11_side_15 ?_
  refine st_iload_n (pc := 16) hC dX11_side_16 rfl ?_
  refine st_iadd (pc := 17) hC dX11_side_17 ?_
  obtain ⟨hb, h⟩ := h
  refine st_iald (n := 181) (pc := 18) hC dX11_side_18 (by decide) hb ?_
  exact st_ireturn (pc := 19) hC dX11_side_19 trivial h
theorem bX11_changes_0 {C : Nat → List Vv → Sg → Rs → Sg → Prop} {X : Nat → List Vv → List Vv → Sg → Prop} {Xr : List Vv → Sg → Prop} {Xt : Nat → Sg → Prop} (hC : Clo C 11 cX11_changes (some .int) X Xr Xt) {x1 x2 : Int} {σ : Sg} (h : ∃ v1 : Int, C MX11_isPerson [rV 20 66, lV x1] (upS σ 66 5 0) (.inl [iV v1]) (upS σ 66 5 0) ∧ (if v1 = 0 then (∃ v2 : Int, ∃ σ2 : Sg, C MX11_fails [rV 20 66, iV 1] (upS σ 66 5 0) (.inl [iV v2]) σ2 ∧ (Xr [iV v2] σ2)) else (∃ v3 : Int, C MX11_within [lV x2, lV 0, lV (w32 (((upS σ 66 5 0) 67 3) - 1))] (upS σ 66 5 0) (.inl [iV v3]) (upS σ 66 5 0) ∧ (if v3 = 0 then (∃ v4 : Int, ∃ σ4 : Sg, C MX11_fails [rV 20 66, iV 1] (upS σ 66 5 0) (.inl [iV v4]) σ4 ∧ (Xr [iV v4] σ4)) else (X 43 [rV 20 66, iV x1, iV x2, iV 0, iV 0] [] (upS σ 66 5 0)))))) : X 0 [rV 20 66, iV x1, iV x2, uV, uV] [] σ := by
  refine st_aload_n (pc := 0) hC dX11_changes_0 rfl (by decide) (by decide) ?_
  refine st_iconst (pc := 1) hC dX11_changes_1 (by decide) ?_
  refine st_putfI (ci := 10) (f := 5) (pc := 2) hC dX11_changes_2 fl_11_64 rfl rfl ?_
  refine st_aload_n (pc := 5) hC dX11_changes_5 rfl (by decide) (by decide) ?_
  refine st_iload_n (pc := 6) hC dX11_changes_6 rfl ?_
  refine st_i2l (pc := 7) hC dX11_changes_7 ?_
  obtain ⟨v1, hq, h⟩ := h
  refine st_invV (As := [lV x1]) (v := [iV v1]) (S := []) (pc := 8) hC dX11_changes_8 cl_11_203 rfl rfl (Nat.le_of_ble_eq_true rfl) cr_X11_isPerson hq ?_
  refine st_if_eq (tg := 32) (pc := 11) hC dX11_changes_11 (by decide) (ite_im h (fun h => ?_) (fun h => ?_))
  · refine st_aload_n (pc := 32) hC dX11_changes_32 rfl (by decide) (by decide) ?_
    refine st_iconst (pc := 33) hC dX11_changes_33 (by decide) ?_
    obtain ⟨v2, σ2, hq, h⟩ := h
    refine st_invV (As := [iV 1]) (v := [iV v2]) (S := []) (pc := 34) hC dX11_changes_34 cl_11_178 rfl rfl (Nat.le_of_ble_eq_true rfl) cr_X11_fails hq ?_
    exact st_ireturn (pc := 37) hC dX11_changes_37 trivial h
  · refine st_iload_n (pc := 14) hC dX11_changes_14 rfl ?_
    refine st_i2l (pc := 15) hC dX11_changes_15 ?_
    refine st_lconst0 (pc := 16) hC dX11_changes_16 ?_
    refine st_aload_n (pc := 17) hC dX11_changes_17 rfl (by decide) (by decide) ?_
    refine st_getf (ci := 10) (f := 0) (v := rV 1000181 67) (pc := 18) hC dX11_changes_18 fl_11_9 rfl rfl ?_
    refine st_iconst (pc := 21) hC dX11_changes_21 (by decide) ?_
    refine st_iald (n := 181) (pc := 22) hC dX11_changes_22 (by decide) ⟨by decide, by decide⟩ ?_
    refine st_iconst (pc := 23) hC dX11_changes_23 (by decide) ?_
    refine st_isub (pc := 24) hC dX11_changes_24 ?_
    refine st_i2l (pc := 25) hC dX11_changes_25 ?_
    obtain ⟨v3, hq, h⟩ := h
    refine st_invS (As := [lV x2, lV 0, lV (w32 (((upS σ 66 5 0) 67 3) - 1))]) (v := [iV v3]) (S := []) (pc := 26) hC dX11_changes_26 cl_11_133 rfl rfl (Nat.le_of_ble_eq_true rfl) hq ?_
    refine st_if_ne (tg := 38) (pc := 29) hC dX11_changes_29 (by decide) (ite_im h (fun h => ?_) (fun h => ?_))
    · refine st_aload_n (pc := 32) hC dX11_changes_32 rfl (by decide) (by decide) ?_
      refine st_iconst (pc := 33) hC dX11_changes_33 (by decide) ?_
      obtain ⟨v4, σ4, hq, h⟩ := h
      refine st_invV (As := [iV 1]) (v := [iV v4]) (S := []) (pc := 34) hC dX11_changes_34 cl_11_178 rfl rfl (Nat.le_of_ble_eq_true rfl) cr_X11_fails hq ?_
      exact st_ireturn (pc := 37) hC dX11_changes_37 trivial h
    · refine st_iconst (pc := 38) hC dX11_changes_38 (by decide) ?_
      refine st_istore_n (L2 := [rV 20 66, iV x1, iV x2, iV 0, uV]) (pc := 39) hC dX11_changes_39 (Nat.le_of_ble_eq_true rfl) rfl ?_
      refine st_iconst (pc := 40) hC dX11_changes_40 (by decide) ?_
      refine st_istore (L2 := [rV 20 66, iV x1, iV x2, iV 0, iV 0]) (pc := 41) hC dX11_changes_41 (Nat.le_of_ble_eq_true rfl) rfl ?_
      exact h
theorem bX11_changes_43 {C : Nat → List Vv → Sg → Rs → Sg → Prop} {X : Nat → List Vv → List Vv → Sg → Prop} {Xr : List Vv → Sg → Prop} {Xt : Nat → Sg → Prop} (hC : Clo C 11 cX11_changes (some .int) X Xr Xt) {x1 x2 x3 x4 : Int} {σ : Sg} (h : ∃ v1 : Int, C MX11_coins [rV 20 66] σ (.inl [iV v1]) σ ∧ (if x4 < v1 then (∃ v2 : Int, C MX11_of [rV 20 66, iV x1, iV x4] σ (.inl [iV v2]) σ ∧ (∃ v3 : Int, C MX11_side [rV 20 66, iV x2, iV 0, iV x4] σ (.inl [iV v3]) σ ∧ (if v2 < v3 then (Xr [iV (-2)] σ) else (∃ v4 : Int, C MX11_of [rV 20 66, iV x1, iV x4] σ (.inl [iV v4]) σ ∧ (∃ v5 : Int, C MX11_side [rV 20 66, iV x2, iV 0, iV x4] σ (.inl [iV v5]) σ ∧ (∃ v6 : Int, C MX11_side [rV 20 66, iV x2, iV 1, iV x4] σ (.inl [iV v6]) σ ∧ (X 43 [rV 20 66, iV x1, iV x2, iV (w32 (x3 + (w32 ((w32 (v4 - v5)) + v6)))), iV (w32 (x4 + 1))] [] σ))))))) else (if (9 : Int) < x3 then (Xr [iV (-3)] σ) else (X 119 [rV 20 66, iV x1, iV x2, iV x3, iV 0] [] σ)))) : X 43 [rV 20 66, iV x1, iV x2, iV x3, iV x4] [] σ := by
  refine st_iload (pc := 43) hC dX11_changes_43 rfl ?_
  refine st_aload_n (pc := 45) hC dX11_changes_45 rfl (by decide) (by decide) ?_
  obtain ⟨v1, hq, h⟩ := h
  refine st_invV (As := []) (v := [iV v1]) (S := [iV x4]) (pc := 46) hC dX11_changes_46 cl_11_193 rfl rfl (Nat.le_of_ble_eq_true rfl) cr_X11_coins hq ?_
  refine st_icmp_ge (tg := 107) (pc := 49) hC dX11_changes_49 (by decide) (ite_im h (fun h => ?_) (fun h => ?_))
  · refine st_aload_n (pc := 52) hC dX11_changes_52 rfl (by decide) (by decide) ?_
    refine st_iload_n (pc := 53) hC dX11_changes_53 rfl ?_
    refine st_iload (pc := 54) hC dX11_changes_54 rfl ?_
    obtain ⟨v2, hq, h⟩ := h
    refine st_invV (As := [iV x1, iV x4]) (v := [iV v2]) (S := []) (pc := 56) hC dX11_changes_56 cl_11_196 rfl rfl (Nat.le_of_ble_eq_true rfl) cr_X11_of hq ?_
    refine st_aload_n (pc := 59) hC dX11_changes_59 rfl (by decide) (by decide) ?_
    refine st_iload_n (pc := 60) hC dX11_changes_60 rfl ?_
    refine st_iconst (pc := 61) hC dX11_changes_61 (by decide) ?_
    refine st_iload (pc := 62) hC dX11_changes_62 rfl ?_
    obtain ⟨v3, hq, h⟩ := h
    refine st_invV (As := [iV x2, iV 0, iV x4]) (v := [iV v3]) (S := [iV v2]) (pc := 64) hC dX11_changes_64 cl_11_240 rfl rfl (Nat.le_of_ble_eq_true rfl) cr_X11_side hq ?_
    refine st_icmp_ge (tg := 73) (pc := 67) hC dX11_changes_67 (by decide) (ite_im h (fun h => ?_) (fun h => ?_))
    · refine st_bipush (pc := 70) hC dX11_changes_70 (by decide) ?_
      exact st_ireturn (pc := 72) hC dX11_changes_72 trivial h
    · refine st_iload_n (pc := 73) hC dX11_changes_73 rfl ?_
      refine st_aload_n (pc := 74) hC dX11_changes_74 rfl (by decide) (by decide) ?_
      refine st_iload_n (pc := 75) hC dX11_changes_75 rfl ?_
      refine st_iload (pc := 76) hC dX11_changes_76 rfl ?_
      obtain ⟨v4, hq, h⟩ := h
      refine st_invV (As := [iV x1, iV x4]) (v := [iV v4]) (S := [iV x3]) (pc := 78) hC dX11_changes_78 cl_11_196 rfl rfl (Nat.le_of_ble_eq_true rfl) cr_X11_of hq ?_
      refine st_aload_n (pc := 81) hC dX11_changes_81 rfl (by decide) (by decide) ?_
      refine st_iload_n (pc := 82) hC dX11_changes_82 rfl ?_
      refine st_iconst (pc := 83) hC dX11_changes_83 (by decide) ?_
      refine st_iload (pc := 84) hC dX11_changes_84 rfl ?_
      obtain ⟨v5, hq, h⟩ := h
      refine st_invV (As := [iV x2, iV 0, iV x4]) (v := [iV v5]) (S := [iV v4, iV x3]) (pc := 86) hC dX11_changes_86 cl_11_240 rfl rfl (Nat.le_of_ble_eq_true rfl) cr_X11_side hq ?_
      refine st_isub (pc := 89) hC dX11_changes_89 ?_
      refine st_aload_n (pc := 90) hC dX11_changes_90 rfl (by decide) (by decide) ?_
      refine st_iload_n (pc := 91) hC dX11_changes_91 rfl ?_
      refine st_iconst (pc := 92) hC dX11_changes_92 (by decide) ?_
      refine st_iload (pc := 93) hC dX11_changes_93 rfl ?_
      obtain ⟨v6, hq, h⟩ := h
      refine st_invV (As := [iV x2, iV 1, iV x4]) (v := [iV v6]) (S := [iV (w32 (v4 - v5)), iV x3]) (pc := 95) hC dX11_changes_95 cl_11_240 rfl rfl (Nat.le_of_ble_eq_true rfl) cr_X11_side hq ?_
      refine st_iadd (pc := 98) hC dX11_changes_98 ?_
      refine st_iadd (pc := 99) hC dX11_changes_99 ?_
      refine st_istore_n (L2 := [rV 20 66, iV x1, iV x2, iV (w32 (x3 + (w32 ((w32 (v4 - v5)) + v6)))), iV x4]) (pc := 100) hC dX11_changes_100 (Nat.le_of_ble_eq_true rfl) rfl ?_
      refine st_iinc (L2 := [rV 20 66, iV x1, iV x2, iV (w32 (x3 + (w32 ((w32 (v4 - v5)) + v6)))), iV (w32 (x4 + 1))]) (pc := 101) hC dX11_changes_101 rfl (Nat.le_of_ble_eq_true rfl) rfl ?_
      refine st_goto (tg := 43) (pc := 104) hC dX11_changes_104 (by decide) ?_
      exact h
  · refine st_iload_n (pc := 107) hC dX11_changes_107 rfl ?_
    refine st_bipush (pc := 108) hC dX11_changes_108 (by decide) ?_
    refine st_icmp_le (tg := 116) (pc := 110) hC dX11_changes_110 (by decide) (ite_im h (fun h => ?_) (fun h => ?_))
    · refine st_bipush (pc := 113) hC dX11_changes_113 (by decide) ?_
      exact st_ireturn (pc := 115) hC dX11_changes_115 trivial h
    · refine st_iconst (pc := 116) hC dX11_changes_116 (by decide) ?_
      refine st_istore (L2 := [rV 20 66, iV x1, iV x2, iV x3, iV 0]) (pc := 117) hC dX11_changes_117 (Nat.le_of_ble_eq_true rfl) rfl ?_
      exact h
theorem bX11_changes_119 {C : Nat → List Vv → Sg → Rs → Sg → Prop} {X : Nat → List Vv → List Vv → Sg → Prop} {Xr : List Vv → Sg → Prop} {Xt : Nat → Sg → Prop} (hC : Clo C 11 cX11_changes (some .int) X Xr Xt) {x1 x2 x3 x4 : Int} {σ : Sg} (h : ∃ v1 : Int, C MX11_coins [rV 20 66] σ (.inl [iV v1]) σ ∧ (if x4 < v1 then ((0 ≤ (w32 ((w32 (12 + (w32 (8 * x1)))) + x4)) ∧ (w32 ((w32 (12 + (w32 (8 * x1)))) + x4)) < 181) ∧ (∃ v2 : Int, C MX11_side [rV 20 66, iV x2, iV 1, iV x4] σ (.inl [iV v2]) σ ∧ (∃ v3 : Int, C MX11_side [rV 20 66, iV x2, iV 0, iV x4] σ (.inl [iV v3]) σ ∧ ((0 ≤ (w32 ((w32 (12 + (w32 (8 * x1)))) + x4)) ∧ (w32 ((w32 (12 + (w32 (8 * x1)))) + x4)) < 181) ∧ (X 119 [rV 20 66, iV x1, iV x2, iV x3, iV (w32 (x4 + 1))] [] (upS σ 67 ((w32 ((w32 (12 + (w32 (8 * x1)))) + x4))).toNat (w32 ((σ 67 ((w32 ((w32 (12 + (w32 (8 * x1)))) + x4))).toNat) + (w32 (v2 - v3)))))))))) else (Xr [iV x3] σ))) : X 119 [rV 20 66, iV x1, iV x2, iV x3, iV x4] [] σ := by
  refine st_iload (pc := 119) hC dX11_changes_119 rfl ?_
  refine st_aload_n (pc := 121) hC dX11_changes_121 rfl (by decide) (by decide) ?_
  obtain ⟨v1, hq, h⟩ := h
  refine st_invV (As := []) (v := [iV v1]) (S := [iV x4]) (pc := 122) hC dX11_changes_122 cl_11_193 rfl rfl (Nat.le_of_ble_eq_true rfl) cr_X11_coins hq ?_
  refine st_icmp_ge (tg := 169) (pc := 125) hC dX11_changes_125 (by decide) (ite_im h (fun h => ?_) (fun h => ?_))
  · refine st_aload_n (pc := 128) hC dX11_changes_128 rfl (by decide) (by decide) ?_
    refine st_getf (ci := 10) (f := 0) (v := rV 1000181 67) (pc := 129) hC dX11_changes_129 fl_11_9 rfl rfl ?_
    refine st_bipush (pc := 132) hC dX11_changes_132 (by decide) ?_
    refine st_bipush (pc := 134) hC dX11_changes_134 (by decide) ?_
    refine st_iload_n (pc := 136) hC dX11_changes_136 rfl ?_
    refine st_imul (pc := 137) hC dX11_changes_137 ?_
    refine st_iadd (pc := 138) hC dX11_changes_138 ?_
    refine st_iload (pc := 139) hC dX11_changes_139 rfl ?_
    refine st_iadd (pc := 141) hC dX11_changes_141 ?_
    refine st_dup2IR (pc := 142) hC dX11_changes_142 (by decide) (by decide) ?_
    obtain ⟨hb, h⟩ := h
    refine st_iald (n := 181) (pc := 143) hC dX11_changes_143 (by decide) hb ?_
    refine st_aload_n (pc := 144) hC dX11_changes_144 rfl (by decide) (by decide) ?_
    refine st_iload_n (pc := 145) hC dX11_changes_145 rfl ?_
    refine st_iconst (pc := 146) hC dX11_changes_146 (by decide) ?_
    refine st_iload (pc := 147) hC dX11_changes_147 rfl ?_
    obtain ⟨v2, hq, h⟩ := h
    refine st_invV (As := [iV x2, iV 1, iV x4]) (v := [iV v2]) (S := [iV (σ 67 ((w32 ((w32 (12 + (w32 (8 * x1)))) + x4))).toNat), iV (w32 ((w32 (12 + (w32 (8 * x1)))) + x4)), rV 1000181 67]) (pc := 149) hC dX11_changes_149 cl_11_240 rfl rfl (Nat.le_of_ble_eq_true rfl) cr_X11_side hq ?_
    refine st_aload_n (pc := 152) hC dX11_changes_152 rfl (by decide) (by decide) ?_
    refine st_iload_n (pc := 153) hC dX11_changes_153 rfl ?_
    refine st_iconst (pc := 154) hC dX11_changes_154 (by decide) ?_
    refine st_iload (pc := 155) hC dX11_changes_155 rfl ?_
    obtain ⟨v3, hq, h⟩ := h
    refine st_invV (As := [iV x2, iV 0, iV x4]) (v := [iV v3]) (S := [iV v2, iV (σ 67 ((w32 ((w32 (12 + (w32 (8 * x1)))) + x4))).toNat), iV (w32 ((w32 (12 + (w32 (8 * x1)))) + x4)), rV 1000181 67]) (pc := 157) hC dX11_changes_157 cl_11_240 rfl rfl (Nat.le_of_ble_eq_true rfl) cr_X11_side hq ?_
    refine st_isub (pc := 160) hC dX11_changes_160 ?_
    refine st_iadd (pc := 161) hC dX11_changes_161 ?_
    obtain ⟨hb, h⟩ := h
    refine st_iast (n := 181) (pc := 162) hC dX11_changes_162 (by decide) hb ?_
    refine st_iinc (L2 := [rV 20 66, iV x1, iV x2, iV x3, iV (w32 (x4 + 1))]) (pc := 163) hC dX11_changes_163 rfl (Nat.le_of_ble_eq_true rfl) rfl ?_
    refine st_goto (tg := 119) (pc := 166) hC dX11_changes_166 (by decide) ?_
    exact h
  · refine st_iload_n (pc := 169) hC dX11_changes_169 rfl ?_
    exact st_ireturn (pc := 170) hC dX11_changes_170 trivial h
theorem bX11_taxes_0 {C : Nat → List Vv → Sg → Rs → Sg → Prop} {X : Nat → List Vv → List Vv → Sg → Prop} {Xr : List Vv → Sg → Prop} {Xt : Nat → Sg → Prop} (hC : Clo C 11 cX11_taxes (some .int) X Xr Xt) {x1 : Int} {σ : Sg} (h : X 4 [rV 20 66, iV x1, iV (-1), iV 0] [] σ) : X 0 [rV 20 66, iV x1, uV, uV] [] σ := by
  refine st_iconst (pc := 0) hC dX11_taxes_0 (by decide) ?_
  refine st_istore_n (L2 := [rV 20 66, iV x1, iV (-1), uV]) (pc := 1) hC dX11_taxes_1 (Nat.le_of_ble_eq_true rfl) rfl ?_
  refine st_iconst (pc := 2) hC dX11_taxes_2 (by decide) ?_
  refine st_istore_n (L2 := [rV 20 66, iV x1, iV (-1), iV 0]) (pc := 3) hC dX11_taxes_3 (Nat.le_of_ble_eq_true rfl) rfl ?_
  exact h
theorem bX11_taxes_4 {C : Nat → List Vv → Sg → Rs → Sg → Prop} {X : Nat → List Vv → List Vv → Sg → Prop} {Xr : List Vv → Sg → Prop} {Xt : Nat → Sg → Prop} (hC : Clo C 11 cX11_taxes (some .int) X Xr Xt) {x1 x2 x3 : Int} {σ : Sg} (h : ∃ v1 : Int, C MX11_coins [rV 20 66] σ (.inl [iV v1]) σ ∧ (if x3 < v1 then (∃ v2 : Int, C MX11_of [rV 20 66, iV x1, iV x3] σ (.inl [iV v2]) σ ∧ (if (0 : Int) < v2 then (if x2 = (-1) then (X 4 [rV 20 66, iV x1, iV x3, iV (w32 (x3 + 1))] [] σ) else (∃ v3 : Int, C MX11_prime [rV 20 66, iV x3] σ (.inl [iV v3]) σ ∧ (∃ v4 : Int, C MX11_prime [rV 20 66, iV x2] σ (.inl [iV v4]) σ ∧ (if v4 < v3 then (X 4 [rV 20 66, iV x1, iV x3, iV (w32 (x3 + 1))] [] σ) else (X 4 [rV 20 66, iV x1, iV x2, iV (w32 (x3 + 1))] [] σ))))) else (X 4 [rV 20 66, iV x1, iV x2, iV (w32 (x3 + 1))] [] σ))) else (if x2 = (-1) then (Xr [iV (-1)] σ) else ((0 ≤ (w32 ((w32 (12 + (w32 (8 * x1)))) + x2)) ∧ (w32 ((w32 (12 + (w32 (8 * x1)))) + x2)) < 181) ∧ ((0 ≤ (w32 ((w32 (12 + (w32 (8 * x1)))) + x2)) ∧ (w32 ((w32 (12 + (w32 (8 * x1)))) + x2)) < 181) ∧ ((0 ≤ (w32 (148 + x2)) ∧ (w32 (148 + x2)) < 181) ∧ ((0 ≤ (w32 (148 + x2)) ∧ (w32 (148 + x2)) < 181) ∧ (Xr [iV x2] (upS (upS σ 67 ((w32 ((w32 (12 + (w32 (8 * x1)))) + x2))).toNat (w32 ((σ 67 ((w32 ((w32 (12 + (w32 (8 * x1)))) + x2))).toNat) - 1))) 67 ((w32 (148 + x2))).toNat (min 999 (w32 (((upS σ 67 ((w32 ((w32 (12 + (w32 (8 * x1)))) + x2))).toNat (w32 ((σ 67 ((w32 ((w32 (12 + (w32 (8 * x1)))) + x2))).toNat) - 1))) 67 ((w32 (148 + x2))).toNat) + 1)))))))))))) : X 4 [rV 20 66, iV x1, iV x2, iV x3] [] σ := by
  refine st_iload_n (pc := 4) hC dX11_taxes_4 rfl ?_
  refine st_aload_n (pc := 5) hC dX11_taxes_5 rfl (by decide) (by decide) ?_
  obtain ⟨v1, hq, h⟩ := h
  refine st_invV (As := []) (v := [iV v1]) (S := [iV x3]) (pc := 6) hC dX11_taxes_6 cl_11_193 rfl rfl (Nat.le_of_ble_eq_true rfl) cr_X11_coins hq ?_
  refine st_icmp_ge (tg := 47) (pc := 9) hC dX11_taxes_9 (by decide) (ite_im h (fun h => ?_) (fun h => ?_))
  · refine st_aload_n (pc := 12) hC dX11_taxes_12 rfl (by decide) (by decide) ?_
    refine st_iload_n (pc := 13) hC dX11_taxes_13 rfl ?_
    refine st_iload_n (pc := 14) hC dX11_taxes_14 rfl ?_
    obtain ⟨v2, hq, h⟩ := h
    refine st_invV (As := [iV x1, iV x3]) (v := [iV v2]) (S := []) (pc := 15) hC dX11_taxes_15 cl_11_196 rfl rfl (Nat.le_of_ble_eq_true rfl) cr_X11_of hq ?_
    refine st_if_le (tg := 41) (pc := 18) hC dX11_taxes_18 (by decide) (ite_im h (fun h => ?_) (fun h => ?_))
    · refine st_iload_n (pc := 21) hC dX11_taxes_21 rfl ?_
      refine st_iconst (pc := 22) hC dX11_taxes_22 (by decide) ?_
      refine st_icmp_eq (tg := 39) (pc := 23) hC dX11_taxes_23 (by decide) (ite_im h (fun h => ?_) (fun h => ?_))
      · refine st_iload_n (pc := 39) hC dX11_taxes_39 rfl ?_
        refine st_istore_n (L2 := [rV 20 66, iV x1, iV x3, iV x3]) (pc := 40) hC dX11_taxes_40 (Nat.le_of_ble_eq_true rfl) rfl ?_
        refine st_iinc (L2 := [rV 20 66, iV x1, iV x3, iV (w32 (x3 + 1))]) (pc := 41) hC dX11_taxes_41 rfl (Nat.le_of_ble_eq_true rfl) rfl ?_
        refine st_goto (tg := 4) (pc := 44) hC dX11_taxes_44 (by decide) ?_
        exact h
      · refine st_aload_n (pc := 26) hC dX11_taxes_26 rfl (by decide) (by decide) ?_
        refine st_iload_n (pc := 27) hC dX11_taxes_27 rfl ?_
        obtain ⟨v3, hq, h⟩ := h
        refine st_invV (As := [iV x3]) (v := [iV v3]) (S := []) (pc := 28) hC dX11_taxes_28 cl_11_200 rfl rfl (Nat.le_of_ble_eq_true rfl) cr_X11_prime hq ?_
        refine st_aload_n (pc := 31) hC dX11_taxes_31 rfl (by decide) (by decide) ?_
        refine st_iload_n (pc := 32) hC dX11_taxes_32 rfl ?_
        obtain ⟨v4, hq, h⟩ := h
        refine st_invV (As := [iV x2]) (v := [iV v4]) (S := [iV v3]) (pc := 33) hC dX11_taxes_33 cl_11_200 rfl rfl (Nat.le_of_ble_eq_true rfl) cr_X11_prime hq ?_
        refine st_icmp_le (tg := 41) (pc := 36) hC dX11_taxes_36 (by decide) (ite_im h (fun h => ?_) (fun h => ?_))
        · refine st_iload_n (pc := 39) hC dX11_taxes_39 rfl ?_
          refine st_istore_n (L2 := [rV 20 66, iV x1, iV x3, iV x3]) (pc := 40) hC dX11_taxes_40 (Nat.le_of_ble_eq_true rfl) rfl ?_
          refine st_iinc (L2 := [rV 20 66, iV x1, iV x3, iV (w32 (x3 + 1))]) (pc := 41) hC dX11_taxes_41 rfl (Nat.le_of_ble_eq_true rfl) rfl ?_
          refine st_goto (tg := 4) (pc := 44) hC dX11_taxes_44 (by decide) ?_
          exact h
        · refine st_iinc (L2 := [rV 20 66, iV x1, iV x2, iV (w32 (x3 + 1))]) (pc := 41) hC dX11_taxes_41 rfl (Nat.le_of_ble_eq_true rfl) rfl ?_
          refine st_goto (tg := 4) (pc := 44) hC dX11_taxes_44 (by decide) ?_
          exact h
    · refine st_iinc (L2 := [rV 20 66, iV x1, iV x2, iV (w32 (x3 + 1))]) (pc := 41) hC dX11_taxes_41 rfl (Nat.le_of_ble_eq_true rfl) rfl ?_
      refine st_goto (tg := 4) (pc := 44) hC dX11_taxes_44 (by decide) ?_
      exact h
  · refine st_iload_n (pc := 47) hC dX11_taxes_47 rfl ?_
    refine st_iconst (pc := 48) hC dX11_taxes_48 (by decide) ?_
    refine st_icmp_ne (tg := 54) (pc := 49) hC dX11_taxes_49 (by decide) (ite_im h (fun h => ?_) (fun h => ?_))
    · refine st_iconst (pc := 52) hC dX11_taxes_52 (by decide) ?_
      exact st_ireturn (pc := 53) hC dX11_taxes_53 trivial h
    · refine st_aload_n (pc := 54) hC dX11_taxes_54 rfl (by decide) (by decide) ?_
      refine st_getf (ci := 10) (f := 0) (v := rV 1000181 67) (pc := 55) hC dX11_taxes_55 fl_11_9 rfl rfl ?_
      refine st_bipush (pc := 58) hC dX11_taxes_58 (by decide) ?_
      refine st_bipush (pc := 60) hC dX11_taxes_60 (by decide) ?_
      refine st_iload_n (pc := 62) hC dX11_taxes_62 rfl ?_
      refine st_imul (pc := 63) hC dX11_taxes_63 ?_
      refine st_iadd (pc := 64) hC dX11_taxes_64 ?_
      refine st_iload_n (pc := 65) hC dX11_taxes_65 rfl ?_
      refine st_iadd (pc := 66) hC dX11_taxes_66 ?_
      refine st_dup2IR (pc := 67) hC dX11_taxes_67 (by decide) (by decide) ?_
      obtain ⟨hb, h⟩ := h
      refine st_iald (n := 181) (pc := 68) hC dX11_taxes_68 (by decide) hb ?_
      refine st_iconst (pc := 69) hC dX11_taxes_69 (by decide) ?_
      refine st_isub (pc := 70) hC dX11_taxes_70 ?_
      obtain ⟨hb, h⟩ := h
      refine st_iast (n := 181) (pc := 71) hC dX11_taxes_71 (by decide) hb ?_
      refine st_aload_n (pc := 72) hC dX11_taxes_72 rfl (by decide) (by decide) ?_
      refine st_getf (ci := 10) (f := 0) (v := rV 1000181 67) (pc := 73) hC dX11_taxes_73 fl_11_9 rfl rfl ?_
      refine st_sipush (pc := 76) hC dX11_taxes_76 (by decide) ?_
      refine st_iload_n (pc := 79) hC dX11_taxes_79 rfl ?_
      refine st_iadd (pc := 80) hC dX11_taxes_80 ?_
      refine st_sipush (pc := 81) hC dX11_taxes_81 (by decide) ?_
      refine st_aload_n (pc := 84) hC dX11_taxes_84 rfl (by decide) (by decide) ?_
      refine st_getf (ci := 10) (f := 0) (v := rV 1000181 67) (pc := 85) hC dX11_taxes_85 fl_11_9 rfl rfl ?_
      refine st_sipush (pc := 88) hC dX11_taxes_88 (by decide) ?_
      refine st_iload_n (pc := 91) hC dX11_taxes_91 rfl ?_
      refine st_iadd (pc := 92) hC dX11_taxes_92 ?_
      obtain ⟨hb, h⟩ := h
      refine st_iald (n := 181) (pc := 93) hC dX11_taxes_93 (by decide) hb ?_
      refine st_iconst (pc := 94) hC dX11_taxes_94 (by decide) ?_
      refine st_iadd (pc := 95) hC dX11_taxes_95 ?_
      refine st_mmin (pc := 96) hC dX11_taxes_96 rfl (Nat.le_of_ble_eq_true rfl) ?_
      obtain ⟨hb, h⟩ := h
      refine st_iast (n := 181) (pc := 99) hC dX11_taxes_99 (by decide) hb ?_
      refine st_iload_n (pc := 100) hC dX11_taxes_100 rfl ?_
      exact st_ireturn (pc := 101) hC dX11_taxes_101 trivial h
theorem bX11_tax_0 {C : Nat → List Vv → Sg → Rs → Sg → Prop} {X : Nat → List Vv → List Vv → Sg → Prop} {Xr : List Vv → Sg → Prop} {Xt : Nat → Sg → Prop} (hC : Clo C 11 cX11_tax (some .int) X Xr Xt) {x1 : Int} {σ : Sg} (h : ∃ v1 : Int, C MX11_isPerson [rV 20 66, lV x1] (upS σ 66 5 0) (.inl [iV v1]) (upS σ 66 5 0) ∧ (if v1 = 0 then (∃ v2 : Int, ∃ σ2 : Sg, C MX11_fails [rV 20 66, iV 1] (upS σ 66 5 0) (.inl [iV v2]) σ2 ∧ (Xr [iV v2] σ2)) else (∃ v3 : Int, ∃ σ3 : Sg, C MX11_taxes [rV 20 66, iV x1] (upS σ 66 5 0) (.inl [iV v3]) σ3 ∧ (if v3 = (-1) then (Xr [iV (-1)] σ3) else (∃ v4 : Int, C MX11_prime [rV 20 66, iV v3] σ3 (.inl [iV v4]) σ3 ∧ (Xr [iV v4] σ3)))))) : X 0 [rV 20 66, iV x1, uV] [] σ := by
  refine st_aload_n (pc := 0) hC dX11_tax_0 rfl (by decide) (by decide) ?_
  refine st_iconst (pc := 1) hC dX11_tax_1 (by decide) ?_
  refine st_putfI (ci := 10) (f := 5) (pc := 2) hC dX11_tax_2 fl_11_64 rfl rfl ?_
  refine st_aload_n (pc := 5) hC dX11_tax_5 rfl (by decide) (by decide) ?_
  refine st_iload_n (pc := 6) hC dX11_tax_6 rfl ?_
  refine st_i2l (pc := 7) hC dX11_tax_7 ?_
  obtain ⟨v1, hq, h⟩ := h
  refine st_invV (As := [lV x1]) (v := [iV v1]) (S := []) (pc := 8) hC dX11_tax_8 cl_11_203 rfl rfl (Nat.le_of_ble_eq_true rfl) cr_X11_isPerson hq ?_
  refine st_if_ne (tg := 20) (pc := 11) hC dX11_tax_11 (by decide) (ite_im h (fun h => ?_) (fun h => ?_))
  · refine st_aload_n (pc := 14) hC dX11_tax_14 rfl (by decide) (by decide) ?_
    refine st_iconst (pc := 15) hC dX11_tax_15 (by decide) ?_
    obtain ⟨v2, σ2, hq, h⟩ := h
    refine st_invV (As := [iV 1]) (v := [iV v2]) (S := []) (pc := 16) hC dX11_tax_16 cl_11_178 rfl rfl (Nat.le_of_ble_eq_true rfl) cr_X11_fails hq ?_
    exact st_ireturn (pc := 19) hC dX11_tax_19 trivial h
  · refine st_aload_n (pc := 20) hC dX11_tax_20 rfl (by decide) (by decide) ?_
    refine st_iload_n (pc := 21) hC dX11_tax_21 rfl ?_
    obtain ⟨v3, σ3, hq, h⟩ := h
    refine st_invV (As := [iV x1]) (v := [iV v3]) (S := []) (pc := 22) hC dX11_tax_22 cl_11_244 rfl rfl (Nat.le_of_ble_eq_true rfl) cr_X11_taxes hq ?_
    refine st_istore_n (L2 := [rV 20 66, iV x1, iV v3]) (pc := 25) hC dX11_tax_25 (Nat.le_of_ble_eq_true rfl) rfl ?_
    refine st_iload_n (pc := 26) hC dX11_tax_26 rfl ?_
    refine st_iconst (pc := 27) hC dX11_tax_27 (by decide) ?_
    refine st_icmp_ne (tg := 35) (pc := 28) hC dX11_tax_28 (by decide) (ite_im h (fun h => ?_) (fun h => ?_))
    · refine st_iconst (pc := 31) hC dX11_tax_31 (by decide) ?_
      refine st_goto (tg := 40) (pc := 32) hC dX11_tax_32 (by decide) ?_
      exact st_ireturn (pc := 40) hC dX11_tax_40 trivial h
    · refine st_aload_n (pc := 35) hC dX11_tax_35 rfl (by decide) (by decide) ?_
      refine st_iload_n (pc := 36) hC dX11_tax_36 rfl ?_
      obtain ⟨v4, hq, h⟩ := h
      refine st_invV (As := [iV v3]) (v := [iV v4]) (S := []) (pc := 37) hC dX11_tax_37 cl_11_200 rfl rfl (Nat.le_of_ble_eq_true rfl) cr_X11_prime hq ?_
      exact st_ireturn (pc := 40) hC dX11_tax_40 trivial h
theorem bX11_strike_0 {C : Nat → List Vv → Sg → Rs → Sg → Prop} {X : Nat → List Vv → List Vv → Sg → Prop} {Xr : List Vv → Sg → Prop} {Xt : Nat → Sg → Prop} (hC : Clo C 11 cX11_strike (some .int) X Xr Xt) {x1 x2 : Int} {σ : Sg} (h : ∃ v1 : Int, C MX11_coinOf [rV 1000181 67, lV x2] σ (.inl [iV v1]) σ ∧ (∃ v2 : Int, C MX11_isPerson [rV 20 66, lV x1] σ (.inl [iV v2]) σ ∧ (if v2 = 0 then (if (0 : Int) < ((upS σ 66 5 1) 66 5) then (Xr [iV 0] (upS σ 66 5 1)) else ((0 ≤ (w32 ((w32 (12 + (w32 (8 * x1)))) + v1)) ∧ (w32 ((w32 (12 + (w32 (8 * x1)))) + v1)) < 181) ∧ ((0 ≤ (w32 ((w32 (12 + (w32 (8 * x1)))) + v1)) ∧ (w32 ((w32 (12 + (w32 (8 * x1)))) + v1)) < 181) ∧ (∃ v3 : Int, C MX11_size [rV 20 66, iV x1] (upS (upS σ 66 5 1) 67 ((w32 ((w32 (12 + (w32 (8 * x1)))) + v1))).toNat (w32 (((upS σ 66 5 1) 67 ((w32 ((w32 (12 + (w32 (8 * x1)))) + v1))).toNat) + 1))) (.inl [iV v3]) (upS (upS σ 66 5 1) 67 ((w32 ((w32 (12 + (w32 (8 * x1)))) + v1))).toNat (w32 (((upS σ 66 5 1) 67 ((w32 ((w32 (12 + (w32 (8 * x1)))) + v1))).toNat) + 1))) ∧ (Xr [iV v3] (upS (upS σ 66 5 1) 67 ((w32 ((w32 (12 + (w32 (8 * x1)))) + v1))).toNat (w32 (((upS σ 66 5 1) 67 ((w32 ((w32 (12 + (w32 (8 * x1)))) + v1))).toNat) + 1)))))))) else (if v1 = (-1) then (if (0 : Int) < ((upS σ 66 5 2) 66 5) then (Xr [iV 0] (upS σ 66 5 2)) else ((0 ≤ (w32 ((w32 (12 + (w32 (8 * x1)))) + v1)) ∧ (w32 ((w32 (12 + (w32 (8 * x1)))) + v1)) < 181) ∧ ((0 ≤ (w32 ((w32 (12 + (w32 (8 * x1)))) + v1)) ∧ (w32 ((w32 (12 + (w32 (8 * x1)))) + v1)) < 181) ∧ (∃ v4 : Int, C MX11_size [rV 20 66, iV x1] (upS (upS σ 66 5 2) 67 ((w32 ((w32 (12 + (w32 (8 * x1)))) + v1))).toNat (w32 (((upS σ 66 5 2) 67 ((w32 ((w32 (12 + (w32 (8 * x1)))) + v1))).toNat) + 1))) (.inl [iV v4]) (upS (upS σ 66 5 2) 67 ((w32 ((w32 (12 + (w32 (8 * x1)))) + v1))).toNat (w32 (((upS σ 66 5 2) 67 ((w32 ((w32 (12 + (w32 (8 * x1)))) + v1))).toNat) + 1))) ∧ (Xr [iV v4] (upS (upS σ 66 5 2) 67 ((w32 ((w32 (12 + (w32 (8 * x1)))) + v1))).toNat (w32 (((upS σ 66 5 2) 67 ((w32 ((w32 (12 + (w32 (8 * x1)))) + v1))).toNat) + 1)))))))) else (∃ v5 : Int, C MX11_size [rV 20 66, iV x1] σ (.inl [iV v5]) σ ∧ (if v5 = 9 then (if (0 : Int) < ((upS σ 66 5 3) 66 5) then (Xr [iV 0] (upS σ 66 5 3)) else ((0 ≤ (w32 ((w32 (12 + (w32 (8 * x1)))) + v1)) ∧ (w32 ((w32 (12 + (w32 (8 * x1)))) + v1)) < 181) ∧ ((0 ≤ (w32 ((w32 (12 + (w32 (8 * x1)))) + v1)) ∧ (w32 ((w32 (12 + (w32 (8 * x1)))) + v1)) < 181) ∧ (∃ v6 : Int, C MX11_size [rV 20 66, iV x1] (upS (upS σ 66 5 3) 67 ((w32 ((w32 (12 + (w32 (8 * x1)))) + v1))).toNat (w32 (((upS σ 66 5 3) 67 ((w32 ((w32 (12 + (w32 (8 * x1)))) + v1))).toNat) + 1))) (.inl [iV v6]) (upS (upS σ 66 5 3) 67 ((w32 ((w32 (12 + (w32 (8 * x1)))) + v1))).toNat (w32 (((upS σ 66 5 3) 67 ((w32 ((w32 (12 + (w32 (8 * x1)))) + v1))).toNat) + 1))) ∧ (Xr [iV v6] (upS (upS σ 66 5 3) 67 ((w32 ((w32 (12 + (w32 (8 * x1)))) + v1))).toNat (w32 (((upS σ 66 5 3) 67 ((w32 ((w32 (12 + (w32 (8 * x1)))) + v1))).toNat) + 1)))))))) else (if (0 : Int) < ((upS σ 66 5 0) 66 5) then (Xr [iV 0] (upS σ 66 5 0)) else ((0 ≤ (w32 ((w32 (12 + (w32 (8 * x1)))) + v1)) ∧ (w32 ((w32 (12 + (w32 (8 * x1)))) + v1)) < 181) ∧ ((0 ≤ (w32 ((w32 (12 + (w32 (8 * x1)))) + v1)) ∧ (w32 ((w32 (12 + (w32 (8 * x1)))) + v1)) < 181) ∧ (∃ v7 : Int, C MX11_size [rV 20 66, iV x1] (upS (upS σ 66 5 0) 67 ((w32 ((w32 (12 + (w32 (8 * x1)))) + v1))).toNat (w32 (((upS σ 66 5 0) 67 ((w32 ((w32 (12 + (w32 (8 * x1)))) + v1))).toNat) + 1))) (.inl [iV v7]) (upS (upS σ 66 5 0) 67 ((w32 ((w32 (12 + (w32 (8 * x1)))) + v1))).toNat (w32 (((upS σ 66 5 0) 67 ((w32 ((w32 (12 + (w32 (8 * x1)))) + v1))).toNat) + 1))) ∧ (Xr [iV v7] (upS (upS σ 66 5 0) 67 ((w32 ((w32 (12 + (w32 (8 * x1)))) + v1))).toNat (w32 (((upS σ 66 5 0) 67 ((w32 ((w32 (12 + (w32 (8 * x1)))) + v1))).toNat) + 1)))))))))))))) : X 0 [rV 20 66, iV x1, iV x2, uV] [] σ := by
  refine st_aload_n (pc := 0) hC dX11_strike_0 rfl (by decide) (by decide) ?_
  refine st_getf (ci := 10) (f := 0) (v := rV 1000181 67) (pc := 1) hC dX11_strike_1 fl_11_9 rfl rfl ?_
  refine st_iload_n (pc := 4) hC dX11_strike_4 rfl ?_
  refine st_i2l (pc := 5) hC dX11_strike_5 ?_
  obtain ⟨v1, hq, h⟩ := h
  refine st_invS (As := [rV 1000181 67, lV x2]) (v := [iV v1]) (S := []) (pc := 6) hC dX11_strike_6 cl_11_140 rfl rfl (Nat.le_of_ble_eq_true rfl) hq ?_
  refine st_istore_n (L2 := [rV 20 66, iV x1, iV x2, iV v1]) (pc := 9) hC dX11_strike_9 (Nat.le_of_ble_eq_true rfl) rfl ?_
  refine st_aload_n (pc := 10) hC dX11_strike_10 rfl (by decide) (by decide) ?_
  refine st_aload_n (pc := 11) hC dX11_strike_11 rfl (by decide) (by decide) ?_
  refine st_iload_n (pc := 12) hC dX11_strike_12 rfl ?_
  refine st_i2l (pc := 13) hC dX11_strike_13 ?_
  obtain ⟨v2, hq, h⟩ := h
  refine st_invV (As := [lV x1]) (v := [iV v2]) (S := [rV 20 66]) (pc := 14) hC dX11_strike_14 cl_11_203 rfl rfl (Nat.le_of_ble_eq_true rfl) cr_X11_isPerson hq ?_
  refine st_if_ne (tg := 24) (pc := 17) hC dX11_strike_17 (by decide) (ite_im h (fun h => ?_) (fun h => ?_))
  · refine st_iconst (pc := 20) hC dX11_strike_20 (by decide) ?_
    refine st_goto (tg := 48) (pc := 21) hC dX11_strike_21 (by decide) ?_
    refine st_putfI (ci := 10) (f := 5) (pc := 48) hC dX11_strike_48 fl_11_64 rfl rfl ?_
    refine st_aload_n (pc := 51) hC dX11_strike_51 rfl (by decide) (by decide) ?_
    refine st_getf (ci := 10) (f := 5) (v := iV ((upS σ 66 5 1) 66 5)) (pc := 52) hC dX11_strike_52 fl_11_64 rfl rfl ?_
    refine st_if_le (tg := 60) (pc := 55) hC dX11_strike_55 (by decide) (ite_im h (fun h => ?_) (fun h => ?_))
    · refine st_iconst (pc := 58) hC dX11_strike_58 (by decide) ?_
      exact st_ireturn (pc := 59) hC dX11_strike_59 trivial h
    · refine st_aload_n (pc := 60) hC dX11_strike_60 rfl (by decide) (by decide) ?_
      refine st_getf (ci := 10) (f := 0) (v := rV 1000181 67) (pc := 61) hC dX11_strike_61 fl_11_9 rfl rfl ?_
      refine st_bipush (pc := 64) hC dX11_strike_64 (by decide) ?_
      refine st_bipush (pc := 66) hC dX11_strike_66 (by decide) ?_
      refine st_iload_n (pc := 68) hC dX11_strike_68 rfl ?_
      refine st_imul (pc := 69) hC dX11_strike_69 ?_
      refine st_iadd (pc := 70) hC dX11_strike_70 ?_
      refine st_iload_n (pc := 71) hC dX11_strike_71 rfl ?_
      refine st_iadd (pc := 72) hC dX11_strike_72 ?_
      refine st_dup2IR (pc := 73) hC dX11_strike_73 (by decide) (by decide) ?_
      obtain ⟨hb, h⟩ := h
      refine st_iald (n := 181) (pc := 74) hC dX11_strike_74 (by decide) hb ?_
      refine st_iconst (pc := 75) hC dX11_strike_75 (by decide) ?_
      refine st_iadd (pc := 76) hC dX11_strike_76 ?_
      obtain ⟨hb, h⟩ := h
      refine st_iast (n := 181) (pc := 77) hC dX11_strike_77 (by decide) hb ?_
      refine st_aload_n (pc := 78) hC dX11_strike_78 rfl (by decide) (by decide) ?_
      refine st_iload_n (pc := 79) hC dX11_strike_79 rfl ?_
      obtain ⟨v3, hq, h⟩ := h
      refine st_invV (As := [iV x1]) (v := [iV v3]) (S := []) (pc := 80) hC dX11_strike_80 cl_11_217 rfl rfl (Nat.le_of_ble_eq_true rfl) cr_X11_size hq ?_
      exact st_ireturn (pc := 83) hC dX11_strike_83 trivial h
  · refine st_iload_n (pc := 24) hC dX11_strike_24 rfl ?_
    refine st_iconst (pc := 25) hC dX11_strike_25 (by decide) ?_
    refine st_icmp_ne (tg := 33) (pc := 26) hC dX11_strike_26 (by decide) (ite_im h (fun h => ?_) (fun h => ?_))
    · refine st_iconst (pc := 29) hC dX11_strike_29 (by decide) ?_
      refine st_goto (tg := 48) (pc := 30) hC dX11_strike_30 (by decide) ?_
      refine st_putfI (ci := 10) (f := 5) (pc := 48) hC dX11_strike_48 fl_11_64 rfl rfl ?_
      refine st_aload_n (pc := 51) hC dX11_strike_51 rfl (by decide) (by decide) ?_
      refine st_getf (ci := 10) (f := 5) (v := iV ((upS σ 66 5 2) 66 5)) (pc := 52) hC dX11_strike_52 fl_11_64 rfl rfl ?_
      refine st_if_le (tg := 60) (pc := 55) hC dX11_strike_55 (by decide) (ite_im h (fun h => ?_) (fun h => ?_))
      · refine st_iconst (pc := 58) hC dX11_strike_58 (by decide) ?_
        exact st_ireturn (pc := 59) hC dX11_strike_59 trivial h
      · refine st_aload_n (pc := 60) hC dX11_strike_60 rfl (by decide) (by decide) ?_
        refine st_getf (ci := 10) (f := 0) (v := rV 1000181 67) (pc := 61) hC dX11_strike_61 fl_11_9 rfl rfl ?_
        refine st_bipush (pc := 64) hC dX11_strike_64 (by decide) ?_
        refine st_bipush (pc := 66) hC dX11_strike_66 (by decide) ?_
        refine st_iload_n (pc := 68) hC dX11_strike_68 rfl ?_
        refine st_imul (pc := 69) hC dX11_strike_69 ?_
        refine st_iadd (pc := 70) hC dX11_strike_70 ?_
        refine st_iload_n (pc := 71) hC dX11_strike_71 rfl ?_
        refine st_iadd (pc := 72) hC dX11_strike_72 ?_
        refine st_dup2IR (pc := 73) hC dX11_strike_73 (by decide) (by decide) ?_
        obtain ⟨hb, h⟩ := h
        refine st_iald (n := 181) (pc := 74) hC dX11_strike_74 (by decide) hb ?_
        refine st_iconst (pc := 75) hC dX11_strike_75 (by decide) ?_
        refine st_iadd (pc := 76) hC dX11_strike_76 ?_
        obtain ⟨hb, h⟩ := h
        refine st_iast (n := 181) (pc := 77) hC dX11_strike_77 (by decide) hb ?_
        refine st_aload_n (pc := 78) hC dX11_strike_78 rfl (by decide) (by decide) ?_
        refine st_iload_n (pc := 79) hC dX11_strike_79 rfl ?_
        obtain ⟨v4, hq, h⟩ := h
        refine st_invV (As := [iV x1]) (v := [iV v4]) (S := []) (pc := 80) hC dX11_strike_80 cl_11_217 rfl rfl (Nat.le_of_ble_eq_true rfl) cr_X11_size hq ?_
        exact st_ireturn (pc := 83) hC dX11_strike_83 trivial h
    · refine st_aload_n (pc := 33) hC dX11_strike_33 rfl (by decide) (by decide) ?_
      refine st_iload_n (pc := 34) hC dX11_strike_34 rfl ?_
      obtain ⟨v5, hq, h⟩ := h
      refine st_invV (As := [iV x1]) (v := [iV v5]) (S := [rV 20 66]) (pc := 35) hC dX11_strike_35 cl_11_217 rfl rfl (Nat.le_of_ble_eq_true rfl) cr_X11_size hq ?_
      refine st_bipush (pc := 38) hC dX11_strike_38 (by decide) ?_
      refine st_icmp_ne (tg := 47) (pc := 40) hC dX11_strike_40 (by decide) (ite_im h (fun h => ?_) (fun h => ?_))
      · refine st_iconst (pc := 43) hC dX11_strike_43 (by decide) ?_
        refine st_goto (tg := 48) (pc := 44) hC dX11_strike_44 (by decide) ?_
        refine st_putfI (ci := 10) (f := 5) (pc := 48) hC dX11_strike_48 fl_11_64 rfl rfl ?_
        refine st_aload_n (pc := 51) hC dX11_strike_51 rfl (by decide) (by decide) ?_
        refine st_getf (ci := 10) (f := 5) (v := iV ((upS σ 66 5 3) 66 5)) (pc := 52) hC dX11_strike_52 fl_11_64 rfl rfl ?_
        refine st_if_le (tg := 60) (pc := 55) hC dX11_strike_55 (by decide) (ite_im h (fun h => ?_) (fun h => ?_))
        · refine st_iconst (pc := 58) hC dX11_strike_58 (by decide) ?_
          exact st_ireturn (pc := 59) hC dX11_strike_59 trivial h
        · refine st_aload_n (pc := 60) hC dX11_strike_60 rfl (by decide) (by decide) ?_
          refine st_getf (ci := 10) (f := 0) (v := rV 1000181 67) (pc := 61) hC dX11_strike_61 fl_11_9 rfl rfl ?_
          refine st_bipush (pc := 64) hC dX11_strike_64 (by decide) ?_
          refine st_bipush (pc := 66) hC dX11_strike_66 (by decide) ?_
          refine st_iload_n (pc := 68) hC dX11_strike_68 rfl ?_
          refine st_imul (pc := 69) hC dX11_strike_69 ?_
          refine st_iadd (pc := 70) hC dX11_strike_70 ?_
          refine st_iload_n (pc := 71) hC dX11_strike_71 rfl ?_
          refine st_iadd (pc := 72) hC dX11_strike_72 ?_
          refine st_dup2IR (pc := 73) hC dX11_strike_73 (by decide) (by decide) ?_
          obtain ⟨hb, h⟩ := h
          refine st_iald (n := 181) (pc := 74) hC dX11_strike_74 (by decide) hb ?_
          refine st_iconst (pc := 75) hC dX11_strike_75 (by decide) ?_
          refine st_iadd (pc := 76) hC dX11_strike_76 ?_
          obtain ⟨hb, h⟩ := h
          refine st_iast (n := 181) (pc := 77) hC dX11_strike_77 (by decide) hb ?_
          refine st_aload_n (pc := 78) hC dX11_strike_78 rfl (by decide) (by decide) ?_
          refine st_iload_n (pc := 79) hC dX11_strike_79 rfl ?_
          obtain ⟨v6, hq, h⟩ := h
          refine st_invV (As := [iV x1]) (v := [iV v6]) (S := []) (pc := 80) hC dX11_strike_80 cl_11_217 rfl rfl (Nat.le_of_ble_eq_true rfl) cr_X11_size hq ?_
          exact st_ireturn (pc := 83) hC dX11_strike_83 trivial h
      · refine st_iconst (pc := 47) hC dX11_strike_47 (by decide) ?_
        refine st_putfI (ci := 10) (f := 5) (pc := 48) hC dX11_strike_48 fl_11_64 rfl rfl ?_
        refine st_aload_n (pc := 51) hC dX11_strike_51 rfl (by decide) (by decide) ?_
        refine st_getf (ci := 10) (f := 5) (v := iV ((upS σ 66 5 0) 66 5)) (pc := 52) hC dX11_strike_52 fl_11_64 rfl rfl ?_
        refine st_if_le (tg := 60) (pc := 55) hC dX11_strike_55 (by decide) (ite_im h (fun h => ?_) (fun h => ?_))
        · refine st_iconst (pc := 58) hC dX11_strike_58 (by decide) ?_
          exact st_ireturn (pc := 59) hC dX11_strike_59 trivial h
        · refine st_aload_n (pc := 60) hC dX11_strike_60 rfl (by decide) (by decide) ?_
          refine st_getf (ci := 10) (f := 0) (v := rV 1000181 67) (pc := 61) hC dX11_strike_61 fl_11_9 rfl rfl ?_
          refine st_bipush (pc := 64) hC dX11_strike_64 (by decide) ?_
          refine st_bipush (pc := 66) hC dX11_strike_66 (by decide) ?_
          refine st_iload_n (pc := 68) hC dX11_strike_68 rfl ?_
          refine st_imul (pc := 69) hC dX11_strike_69 ?_
          refine st_iadd (pc := 70) hC dX11_strike_70 ?_
          refine st_iload_n (pc := 71) hC dX11_strike_71 rfl ?_
          refine st_iadd (pc := 72) hC dX11_strike_72 ?_
          refine st_dup2IR (pc := 73) hC dX11_strike_73 (by decide) (by decide) ?_
          obtain ⟨hb, h⟩ := h
          refine st_iald (n := 181) (pc := 74) hC dX11_strike_74 (by decide) hb ?_
          refine st_iconst (pc := 75) hC dX11_strike_75 (by decide) ?_
          refine st_iadd (pc := 76) hC dX11_strike_76 ?_
          obtain ⟨hb, h⟩ := h
          refine st_iast (n := 181) (pc := 77) hC dX11_strike_77 (by decide) hb ?_
          refine st_aload_n (pc := 78) hC dX11_strike_78 rfl (by decide) (by decide) ?_
          refine st_iload_n (pc := 79) hC dX11_strike_79 rfl ?_
          obtain ⟨v7, hq, h⟩ := h
          refine st_invV (As := [iV x1]) (v := [iV v7]) (S := []) (pc := 80) hC dX11_strike_80 cl_11_217 rfl rfl (Nat.le_of_ble_eq_true rfl) cr_X11_size hq ?_
          exact st_ireturn (pc := 83) hC dX11_strike_83 trivial h
theorem bX11_treasury_0 {C : Nat → List Vv → Sg → Rs → Sg → Prop} {X : Nat → List Vv → List Vv → Sg → Prop} {Xr : List Vv → Sg → Prop} {Xt : Nat → Sg → Prop} (hC : Clo C 11 cX11_treasury (some .int) X Xr Xt) {x1 : Int} {σ : Sg} (h : ∃ v1 : Int, C MX11_coinOf [rV 1000181 67, lV x1] (upS σ 66 5 0) (.inl [iV v1]) (upS σ 66 5 0) ∧ (if v1 = (-1) then (Xr [iV 0] (upS σ 66 5 0)) else ((0 ≤ (w32 (148 + v1)) ∧ (w32 (148 + v1)) < 181) ∧ (Xr [iV ((upS σ 66 5 0) 67 ((w32 (148 + v1))).toNat)] (upS σ 66 5 0))))) : X 0 [rV 20 66, iV x1, uV] [] σ := by
  refine st_aload_n (pc := 0) hC dX11_treasury_0 rfl (by decide) (by decide) ?_
  refine st_iconst (pc := 1) hC dX11_treasury_1 (by decide) ?_
  refine st_putfI (ci := 10) (f := 5) (pc := 2) hC dX11_treasury_2 fl_11_64 rfl rfl ?_
  refine st_aload_n (pc := 5) hC dX11_treasury_5 rfl (by decide) (by decide) ?_
  refine st_getf (ci := 10) (f := 0) (v := rV 1000181 67) (pc := 6) hC dX11_treasury_6 fl_11_9 rfl rfl ?_
  refine st_iload_n (pc := 9) hC dX11_treasury_9 rfl ?_
  refine st_i2l (pc := 10) hC dX11_treasury_10 ?_
  obtain ⟨v1, hq, h⟩ := h
  refine st_invS (As := [rV 1000181 67, lV x1]) (v := [iV v1]) (S := []) (pc := 11) hC dX11_treasury_11 cl_11_140 rfl rfl (Nat.le_of_ble_eq_true rfl) hq ?_
  refine st_istore_n (L2 := [rV 20 66, iV x1, iV v1]) (pc := 14) hC dX11_treasury_14 (Nat.le_of_ble_eq_true rfl) rfl ?_
  refine st_iload_n (pc := 15) hC dX11_treasury_15 rfl ?_
  refine st_iconst (pc := 16) hC dX11_treasury_16 (by decide) ?_
  refine st_icmp_ne (tg := 24) (pc := 17) hC dX11_treasury_17 (by decide) (ite_im h (fun h => ?_) (fun h => ?_))
  · refine st_iconst (pc := 20) hC dX11_treasury_20 (by decide) ?_
    refine st_goto (tg := 34) (pc := 21) hC dX11_treasury_21 (by decide) ?_
    exact st_ireturn (pc := 34) hC dX11_treasury_34 trivial h
  · refine st_aload_n (pc := 24) hC dX11_treasury_24 rfl (by decide) (by decide) ?_
    refine st_getf (ci := 10) (f := 0) (v := rV 1000181 67) (pc := 25) hC dX11_treasury_25 fl_11_9 rfl rfl ?_
    refine st_sipush (pc := 28) hC dX11_treasury_28 (by decide) ?_
    refine st_iload_n (pc := 31) hC dX11_treasury_31 rfl ?_
    refine st_iadd (pc := 32) hC dX11_treasury_32 ?_
    obtain ⟨hb, h⟩ := h
    refine st_iald (n := 181) (pc := 33) hC dX11_treasury_33 (by decide) hb ?_
    exact st_ireturn (pc := 34) hC dX11_treasury_34 trivial h
theorem bX11_readOut_0 {C : Nat → List Vv → Sg → Rs → Sg → Prop} {X : Nat → List Vv → List Vv → Sg → Prop} {Xr : List Vv → Sg → Prop} {Xt : Nat → Sg → Prop} (hC : Clo C 11 cX11_readOut (some .long) X Xr Xt) {x1 : Int} {σ : Sg} (h : ∃ v1 : Int, C MX11_within [lV x1, lV 1, lV 1000000000] (upS σ 66 5 0) (.inl [iV v1]) (upS σ 66 5 0) ∧ (if v1 = 0 then (∃ v2 : Int, ∃ σ2 : Sg, C MX11_fails [rV 20 66, iV 1] (upS σ 66 5 0) (.inl [iV v2]) σ2 ∧ (Xr [lV v2] σ2)) else (x1 ≠ 0 ∧ (X 30 [rV 20 66, lV x1, uV, lV ((1 : Int).tmod x1), uV, iV 0, uV] [] (upS σ 66 5 0))))) : X 0 [rV 20 66, lV x1, uV, uV, uV, uV, uV] [] σ := by
  refine st_aload_n (pc := 0) hC dX11_readOut_0 rfl (by decide) (by decide) ?_
  refine st_iconst (pc := 1) hC dX11_readOut_1 (by decide) ?_
  refine st_putfI (ci := 10) (f := 5) (pc := 2) hC dX11_readOut_2 fl_11_64 rfl rfl ?_
  refine st_lload_n (pc := 5) hC dX11_readOut_5 rfl ?_
  refine st_lconst1 (pc := 6) hC dX11_readOut_6 ?_
  refine st_ldc2 (pc := 7) hC dX11_readOut_7 rfl ?_
  obtain ⟨v1, hq, h⟩ := h
  refine st_invS (As := [lV x1, lV 1, lV 1000000000]) (v := [iV v1]) (S := []) (pc := 10) hC dX11_readOut_10 cl_11_133 rfl rfl (Nat.le_of_ble_eq_true rfl) hq ?_
  refine st_if_ne (tg := 23) (pc := 13) hC dX11_readOut_13 (by decide) (ite_im h (fun h => ?_) (fun h => ?_))
  · refine st_aload_n (pc := 16) hC dX11_readOut_16 rfl (by decide) (by decide) ?_
    refine st_iconst (pc := 17) hC dX11_readOut_17 (by decide) ?_
    obtain ⟨v2, σ2, hq, h⟩ := h
    refine st_invV (As := [iV 1]) (v := [iV v2]) (S := []) (pc := 18) hC dX11_readOut_18 cl_11_178 rfl rfl (Nat.le_of_ble_eq_true rfl) cr_X11_fails hq ?_
    refine st_i2l (pc := 21) hC dX11_readOut_21 ?_
    exact st_lreturn (pc := 22) hC dX11_readOut_22 h
  · refine st_lconst1 (pc := 23) hC dX11_readOut_23 ?_
    refine st_lload_n (pc := 24) hC dX11_readOut_24 rfl ?_
    obtain ⟨h0, h⟩ := h
    refine st_lrem (pc := 25) hC dX11_readOut_25 h0 ?_
    refine st_lstore_n (L2 := [rV 20 66, lV x1, uV, lV ((1 : Int).tmod x1), uV, uV, uV]) (pc := 26) hC dX11_readOut_26 (Nat.le_of_ble_eq_true rfl) rfl ?_
    refine st_iconst (pc := 27) hC dX11_readOut_27 (by decide) ?_
    refine st_istore (L2 := [rV 20 66, lV x1, uV, lV ((1 : Int).tmod x1), uV, iV 0, uV]) (pc := 28) hC dX11_readOut_28 (Nat.le_of_ble_eq_true rfl) rfl ?_
    exact h
theorem bX11_readOut_30 {C : Nat → List Vv → Sg → Rs → Sg → Prop} {X : Nat → List Vv → List Vv → Sg → Prop} {Xr : List Vv → Sg → Prop} {Xt : Nat → Sg → Prop} (hC : Clo C 11 cX11_readOut (some .long) X Xr Xt) {x1 x3 x5 : Int} {σ : Sg} (h : ∃ v1 : Int, C MX11_coins [rV 20 66] σ (.inl [iV v1]) σ ∧ (if x5 < v1 then (X 42 [rV 20 66, lV x1, uV, lV x3, uV, iV x5, iV 0] [] σ) else (Xr [lV x3] σ))) : X 30 [rV 20 66, lV x1, uV, lV x3, uV, iV x5, uV] [] σ := by
  refine st_iload (pc := 30) hC dX11_readOut_30 rfl ?_
  refine st_aload_n (pc := 32) hC dX11_readOut_32 rfl (by decide) (by decide) ?_
  obtain ⟨v1, hq, h⟩ := h
  refine st_invV (As := []) (v := [iV v1]) (S := [iV x5]) (pc := 33) hC dX11_readOut_33 cl_11_193 rfl rfl (Nat.le_of_ble_eq_true rfl) cr_X11_coins hq ?_
  refine st_icmp_ge (tg := 82) (pc := 36) hC dX11_readOut_36 (by decide) (ite_im h (fun h => ?_) (fun h => ?_))
  · refine st_iconst (pc := 39) hC dX11_readOut_39 (by decide) ?_
    refine st_istore (L2 := [rV 20 66, lV x1, uV, lV x3, uV, iV x5, iV 0]) (pc := 40) hC dX11_readOut_40 (Nat.le_of_ble_eq_true rfl) rfl ?_
    exact h
  · refine st_lload_n (pc := 82) hC dX11_readOut_82 rfl ?_
    exact st_lreturn (pc := 83) hC dX11_readOut_83 h
theorem bX11_readOut_42 {C : Nat → List Vv → Sg → Rs → Sg → Prop} {X : Nat → List Vv → List Vv → Sg → Prop} {Xr : List Vv → Sg → Prop} {Xt : Nat → Sg → Prop} (hC : Clo C 11 cX11_readOut (some .long) X Xr Xt) {x1 x3 x5 x6 : Int} {σ : Sg} (h : (0 ≤ (w32 (148 + x5)) ∧ (w32 (148 + x5)) < 181) ∧ (if x6 < (σ 67 ((w32 (148 + x5))).toNat) then (∃ v1 : Int, C MX11_prime [rV 20 66, iV x5] σ (.inl [iV v1]) σ ∧ (x1 ≠ 0 ∧ (X 42 [rV 20 66, lV x1, uV, lV ((w64 (x3 * v1)).tmod x1), uV, iV x5, iV (w32 (x6 + 1))] [] σ))) else (X 30 [rV 20 66, lV x1, uV, lV x3, uV, iV (w32 (x5 + 1)), uV] [] σ))) : X 42 [rV 20 66, lV x1, uV, lV x3, uV, iV x5, iV x6] [] σ := by
  refine st_iload (pc := 42) hC dX11_readOut_42 rfl ?_
  refine st_aload_n (pc := 44) hC dX11_readOut_44 rfl (by decide) (by decide) ?_
  refine st_getf (ci := 10) (f := 0) (v := rV 1000181 67) (pc := 45) hC dX11_readOut_45 fl_11_9 rfl rfl ?_
  refine st_sipush (pc := 48) hC dX11_readOut_48 (by decide) ?_
  refine st_iload (pc := 51) hC dX11_readOut_51 rfl ?_
  refine st_iadd (pc := 53) hC dX11_readOut_53 ?_
  obtain ⟨hb, h⟩ := h
  refine st_iald (n := 181) (pc := 54) hC dX11_readOut_54 (by decide) hb ?_
  refine st_icmp_ge (tg := 76) (pc := 55) hC dX11_readOut_55 (by decide) (ite_im h (fun h => ?_) (fun h => ?_))
  · refine st_lload_n (pc := 58) hC dX11_readOut_58 rfl ?_
    refine st_aload_n (pc := 59) hC dX11_readOut_59 rfl (by decide) (by decide) ?_
    refine st_iload (pc := 60) hC dX11_readOut_60 rfl ?_
    obtain ⟨v1, hq, h⟩ := h
    refine st_invV (As := [iV x5]) (v := [iV v1]) (S := [lV x3]) (pc := 62) hC dX11_readOut_62 cl_11_200 rfl rfl (Nat.le_of_ble_eq_true rfl) cr_X11_prime hq ?_
    refine st_i2l (pc := 65) hC dX11_readOut_65 ?_
    refine st_lmul (pc := 66) hC dX11_readOut_66 ?_
    refine st_lload_n (pc := 67) hC dX11_readOut_67 rfl ?_
    obtain ⟨h0, h⟩ := h
    refine st_lrem (pc := 68) hC dX11_readOut_68 h0 ?_
    refine st_lstore_n (L2 := [rV 20 66, lV x1, uV, lV ((w64 (x3 * v1)).tmod x1), uV, iV x5, iV x6]) (pc := 69) hC dX11_readOut_69 (Nat.le_of_ble_eq_true rfl) rfl ?_
    refine st_iinc (L2 := [rV 20 66, lV x1, uV, lV ((w64 (x3 * v1)).tmod x1), uV, iV x5, iV (w32 (x6 + 1))]) (pc := 70) hC dX11_readOut_70 rfl (Nat.le_of_ble_eq_true rfl) rfl ?_
    refine st_goto (tg := 42) (pc := 73) hC dX11_readOut_73 (by decide) ?_
    exact h
  · refine st_iinc (L2 := [rV 20 66, lV x1, uV, lV x3, uV, iV (w32 (x5 + 1)), iV x6]) (pc := 76) hC dX11_readOut_76 rfl (Nat.le_of_ble_eq_true rfl) rfl ?_
    refine st_goto (tg := 30) (pc := 79) hC dX11_readOut_79 (by decide) ?_
    exact st_fg (L2 := [rV 20 66, lV x1, uV, lV x3, uV, iV (w32 (x5 + 1)), uV]) hC ⟨Or.inl rfl, Or.inl rfl, Or.inl rfl, Or.inl rfl, Or.inl rfl, Or.inl rfl, Or.inr rfl, trivial⟩ h
theorem bX11_draw_0 {C : Nat → List Vv → Sg → Rs → Sg → Prop} {X : Nat → List Vv → List Vv → Sg → Prop} {Xr : List Vv → Sg → Prop} {Xt : Nat → Sg → Prop} (hC : Clo C 11 cX11_draw (some .int) X Xr Xt) {x1 : Int} {σ : Sg} (h : x1 ≠ 0 ∧ (Xr [iV ((iushrI ((upS σ 66 18 (w32 ((w32 (1103515245 * (σ 66 18))) + 12345))) 66 18) 16).tmod x1)] (upS σ 66 18 (w32 ((w32 (1103515245 * (σ 66 18))) + 12345))))) : X 0 [rV 20 66, iV x1] [] σ := by
  refine st_aload_n (pc := 0) hC dX11_draw_0 rfl (by decide) (by decide) ?_
  refine st_ldcI (pc := 1) hC dX11_draw_1 rfl ?_
  refine st_aload_n (pc := 3) hC dX11_draw_3 rfl (by decide) (by decide) ?_
  refine st_getf (ci := 10) (f := 18) (v := iV (σ 66 18)) (pc := 4) hC dX11_draw_4 fl_11_250 rfl rfl ?_
  refine st_imul (pc := 7) hC dX11_draw_7 ?_
  refine st_sipush (pc := 8) hC dX11_draw_8 (by decide) ?_
  refine st_iadd (pc := 11) hC dX11_draw_11 ?_
  refine st_putfI (ci := 10) (f := 18) (pc := 12) hC dX11_draw_12 fl_11_250 rfl rfl ?_
  refine st_aload_n (pc := 15) hC dX11_draw_15 rfl (by decide) (by decide) ?_
  refine st_getf (ci := 10) (f := 18) (v := iV ((upS σ 66 18 (w32 ((w32 (1103515245 * (σ 66 18))) + 12345))) 66 18)) (pc := 16) hC dX11_draw_16 fl_11_250 rfl rfl ?_
  refine st_bipush (pc := 19) hC dX11_draw_19 (by decide) ?_
  refine st_iushr (pc := 21) hC dX11_draw_21 ?_
  refine st_iload_n (pc := 22) hC dX11_draw_22 rfl ?_
  obtain ⟨h0, h⟩ := h
  refine st_irem (pc := 23) hC dX11_draw_23 h0 ?_
  exact st_ireturn (pc := 24) hC dX11_draw_24 trivial h
theorem bX11_year_0 {C : Nat → List Vv → Sg → Rs → Sg → Prop} {X : Nat → List Vv → List Vv → Sg → Prop} {Xr : List Vv → Sg → Prop} {Xt : Nat → Sg → Prop} (hC : Clo C 11 cX11_year (some .int) X Xr Xt) {x1 x2 : Int} {σ : Sg} (h : ∃ v1 : Int, C MX11_within [lV x2, lV 1, lV 60] σ (.inl [iV v1]) σ ∧ (if v1 = 0 then (if (0 : Int) < ((upS σ 66 5 1) 66 5) then (Xr [iV 0] (upS σ 66 5 1)) else (X 51 [rV 20 66, iV x1, iV x2, iV 0, iV 0, uV, uV] [] (upS (upS σ 66 5 1) 66 18 x1))) else (∃ v2 : Int, C MX11_people [rV 20 66] σ (.inl [iV v2]) σ ∧ (if v2 = 0 then (if (0 : Int) < ((upS σ 66 5 2) 66 5) then (Xr [iV 0] (upS σ 66 5 2)) else (X 51 [rV 20 66, iV x1, iV x2, iV 0, iV 0, uV, uV] [] (upS (upS σ 66 5 2) 66 18 x1))) else (if (0 : Int) < ((upS σ 66 5 0) 66 5) then (Xr [iV 0] (upS σ 66 5 0)) else (X 51 [rV 20 66, iV x1, iV x2, iV 0, iV 0, uV, uV] [] (upS (upS σ 66 5 0) 66 18 x1))))))) : X 0 [rV 20 66, iV x1, iV x2, uV, uV, uV, uV] [] σ := by
  refine st_aload_n (pc := 0) hC dX11_year_0 rfl (by decide) (by decide) ?_
  refine st_iload_n (pc := 1) hC dX11_year_1 rfl ?_
  refine st_i2l (pc := 2) hC dX11_year_2 ?_
  refine st_lconst1 (pc := 3) hC dX11_year_3 ?_
  refine st_ldc2 (pc := 4) hC dX11_year_4 rfl ?_
  obtain ⟨v1, hq, h⟩ := h
  refine st_invS (As := [lV x2, lV 1, lV 60]) (v := [iV v1]) (S := [rV 20 66]) (pc := 7) hC dX11_year_7 cl_11_133 rfl rfl (Nat.le_of_ble_eq_true rfl) hq ?_
  refine st_if_ne (tg := 17) (pc := 10) hC dX11_year_10 (by decide) (ite_im h (fun h => ?_) (fun h => ?_))
  · refine st_iconst (pc := 13) hC dX11_year_13 (by decide) ?_
    refine st_goto (tg := 29) (pc := 14) hC dX11_year_14 (by decide) ?_
    refine st_putfI (ci := 10) (f := 5) (pc := 29) hC dX11_year_29 fl_11_64 rfl rfl ?_
    refine st_aload_n (pc := 32) hC dX11_year_32 rfl (by decide) (by decide) ?_
    refine st_getf (ci := 10) (f := 5) (v := iV ((upS σ 66 5 1) 66 5)) (pc := 33) hC dX11_year_33 fl_11_64 rfl rfl ?_
    refine st_if_le (tg := 41) (pc := 36) hC dX11_year_36 (by decide) (ite_im h (fun h => ?_) (fun h => ?_))
    · refine st_iconst (pc := 39) hC dX11_year_39 (by decide) ?_
      exact st_ireturn (pc := 40) hC dX11_year_40 trivial h
    · refine st_aload_n (pc := 41) hC dX11_year_41 rfl (by decide) (by decide) ?_
      refine st_iload_n (pc := 42) hC dX11_year_42 rfl ?_
      refine st_putfI (ci := 10) (f := 18) (pc := 43) hC dX11_year_43 fl_11_250 rfl rfl ?_
      refine st_iconst (pc := 46) hC dX11_year_46 (by decide) ?_
      refine st_istore_n (L2 := [rV 20 66, iV x1, iV x2, iV 0, uV, uV, uV]) (pc := 47) hC dX11_year_47 (Nat.le_of_ble_eq_true rfl) rfl ?_
      refine st_iconst (pc := 48) hC dX11_year_48 (by decide) ?_
      refine st_istore (L2 := [rV 20 66, iV x1, iV x2, iV 0, iV 0, uV, uV]) (pc := 49) hC dX11_year_49 (Nat.le_of_ble_eq_true rfl) rfl ?_
      exact h
  · refine st_aload_n (pc := 17) hC dX11_year_17 rfl (by decide) (by decide) ?_
    obtain ⟨v2, hq, h⟩ := h
    refine st_invV (As := []) (v := [iV v2]) (S := [rV 20 66]) (pc := 18) hC dX11_year_18 cl_11_190 rfl rfl (Nat.le_of_ble_eq_true rfl) cr_X11_people hq ?_
    refine st_if_ne (tg := 28) (pc := 21) hC dX11_year_21 (by decide) (ite_im h (fun h => ?_) (fun h => ?_))
    · refine st_iconst (pc := 24) hC dX11_year_24 (by decide) ?_
      refine st_goto (tg := 29) (pc := 25) hC dX11_year_25 (by decide) ?_
      refine st_putfI (ci := 10) (f := 5) (pc := 29) hC dX11_year_29 fl_11_64 rfl rfl ?_
      refine st_aload_n (pc := 32) hC dX11_year_32 rfl (by decide) (by decide) ?_
      refine st_getf (ci := 10) (f := 5) (v := iV ((upS σ 66 5 2) 66 5)) (pc := 33) hC dX11_year_33 fl_11_64 rfl rfl ?_
      refine st_if_le (tg := 41) (pc := 36) hC dX11_year_36 (by decide) (ite_im h (fun h => ?_) (fun h => ?_))
      · refine st_iconst (pc := 39) hC dX11_year_39 (by decide) ?_
        exact st_ireturn (pc := 40) hC dX11_year_40 trivial h
      · refine st_aload_n (pc := 41) hC dX11_year_41 rfl (by decide) (by decide) ?_
        refine st_iload_n (pc := 42) hC dX11_year_42 rfl ?_
        refine st_putfI (ci := 10) (f := 18) (pc := 43) hC dX11_year_43 fl_11_250 rfl rfl ?_
        refine st_iconst (pc := 46) hC dX11_year_46 (by decide) ?_
        refine st_istore_n (L2 := [rV 20 66, iV x1, iV x2, iV 0, uV, uV, uV]) (pc := 47) hC dX11_year_47 (Nat.le_of_ble_eq_true rfl) rfl ?_
        refine st_iconst (pc := 48) hC dX11_year_48 (by decide) ?_
        refine st_istore (L2 := [rV 20 66, iV x1, iV x2, iV 0, iV 0, uV, uV]) (pc := 49) hC dX11_year_49 (Nat.le_of_ble_eq_true rfl) rfl ?_
        exact h
    · refine st_iconst (pc := 28) hC dX11_year_28 (by decide) ?_
      refine st_putfI (ci := 10) (f := 5) (pc := 29) hC dX11_year_29 fl_11_64 rfl rfl ?_
      refine st_aload_n (pc := 32) hC dX11_year_32 rfl (by decide) (by decide) ?_
      refine st_getf (ci := 10) (f := 5) (v := iV ((upS σ 66 5 0) 66 5)) (pc := 33) hC dX11_year_33 fl_11_64 rfl rfl ?_
      refine st_if_le (tg := 41) (pc := 36) hC dX11_year_36 (by decide) (ite_im h (fun h => ?_) (fun h => ?_))
      · refine st_iconst (pc := 39) hC dX11_year_39 (by decide) ?_
        exact st_ireturn (pc := 40) hC dX11_year_40 trivial h
      · refine st_aload_n (pc := 41) hC dX11_year_41 rfl (by decide) (by decide) ?_
        refine st_iload_n (pc := 42) hC dX11_year_42 rfl ?_
        refine st_putfI (ci := 10) (f := 18) (pc := 43) hC dX11_year_43 fl_11_250 rfl rfl ?_
        refine st_iconst (pc := 46) hC dX11_year_46 (by decide) ?_
        refine st_istore_n (L2 := [rV 20 66, iV x1, iV x2, iV 0, uV, uV, uV]) (pc := 47) hC dX11_year_47 (Nat.le_of_ble_eq_true rfl) rfl ?_
        refine st_iconst (pc := 48) hC dX11_year_48 (by decide) ?_
        refine st_istore (L2 := [rV 20 66, iV x1, iV x2, iV 0, iV 0, uV, uV]) (pc := 49) hC dX11_year_49 (Nat.le_of_ble_eq_true rfl) rfl ?_
        exact h
theorem bX11_year_51 {C : Nat → List Vv → Sg → Rs → Sg → Prop} {X : Nat → List Vv → List Vv → Sg → Prop} {Xr : List Vv → Sg → Prop} {Xt : Nat → Sg → Prop} (hC : Clo C 11 cX11_year (some .int) X Xr Xt) {x1 x2 x3 x4 : Int} {σ : Sg} (h : if x4 < x2 then (∃ v1 : Int, C MX11_people [rV 20 66] σ (.inl [iV v1]) σ ∧ (∃ v2 : Int, ∃ σ2 : Sg, C MX11_draw [rV 20 66, iV v1] σ (.inl [iV v2]) σ2 ∧ (∃ v3 : Int, ∃ σ3 : Sg, C MX11_draw [rV 20 66, iV 4] σ2 (.inl [iV v3]) σ3 ∧ (if v3 = 0 then (∃ v4 : Int, ∃ σ4 : Sg, C MX11_taxes [rV 20 66, iV v2] σ3 (.inl [iV v4]) σ4 ∧ (if v4 = (-1) then (X 51 [rV 20 66, iV x1, iV x2, iV (w32 (x3 - 0)), iV (w32 (x4 + 1)), uV, uV] [] σ4) else (X 51 [rV 20 66, iV x1, iV x2, iV (w32 (x3 - 1)), iV (w32 (x4 + 1)), uV, uV] [] σ4))) else (∃ v5 : Int, C MX11_coins [rV 20 66] σ3 (.inl [iV v5]) σ3 ∧ (∃ v6 : Int, ∃ σ6 : Sg, C MX11_draw [rV 20 66, iV v5] σ3 (.inl [iV v6]) σ6 ∧ (∃ v7 : Int, C MX11_size [rV 20 66, iV v2] σ6 (.inl [iV v7]) σ6 ∧ (if v7 = 9 then (X 51 [rV 20 66, iV x1, iV x2, iV x3, iV (w32 (x4 + 1)), uV, uV] [] σ6) else ((0 ≤ (w32 ((w32 (12 + (w32 (8 * v2)))) + v6)) ∧ (w32 ((w32 (12 + (w32 (8 * v2)))) + v6)) < 181) ∧ ((0 ≤ (w32 ((w32 (12 + (w32 (8 * v2)))) + v6)) ∧ (w32 ((w32 (12 + (w32 (8 * v2)))) + v6)) < 181) ∧ (X 51 [rV 20 66, iV x1, iV x2, iV (w32 (x3 + 1)), iV (w32 (x4 + 1)), uV, uV] [] (upS σ6 67 ((w32 ((w32 (12 + (w32 (8 * v2)))) + v6))).toNat (w32 ((σ6 67 ((w32 ((w32 (12 + (w32 (8 * v2)))) + v6))).toNat) + 1)))))))))))))) else (Xr [iV x3] σ)) : X 51 [rV 20 66, iV x1, iV x2, iV x3, iV x4, uV, uV] [] σ := by
  refine st_iload (pc := 51) hC dX11_year_51 rfl ?_
  refine st_iload_n (pc := 53) hC dX11_year_53 rfl ?_
  refine st_icmp_ge (tg := 149) (pc := 54) hC dX11_year_54 (by decide) (ite_im h (fun h => ?_) (fun h => ?_))
  · refine st_aload_n (pc := 57) hC dX11_year_57 rfl (by decide) (by decide) ?_
    refine st_aload_n (pc := 58) hC dX11_year_58 rfl (by decide) (by decide) ?_
    obtain ⟨v1, hq, h⟩ := h
    refine st_invV (As := []) (v := [iV v1]) (S := [rV 20 66]) (pc := 59) hC dX11_year_59 cl_11_190 rfl rfl (Nat.le_of_ble_eq_true rfl) cr_X11_people hq ?_
    obtain ⟨v2, σ2, hq, h⟩ := h
    refine st_invV (As := [iV v1]) (v := [iV v2]) (S := []) (pc := 62) hC dX11_year_62 cl_11_255 rfl rfl (Nat.le_of_ble_eq_true rfl) cr_X11_draw hq ?_
    refine st_istore (L2 := [rV 20 66, iV x1, iV x2, iV x3, iV x4, iV v2, uV]) (pc := 65) hC dX11_year_65 (Nat.le_of_ble_eq_true rfl) rfl ?_
    refine st_aload_n (pc := 67) hC dX11_year_67 rfl (by decide) (by decide) ?_
    refine st_iconst (pc := 68) hC dX11_year_68 (by decide) ?_
    obtain ⟨v3, σ3, hq, h⟩ := h
    refine st_invV (As := [iV 4]) (v := [iV v3]) (S := []) (pc := 69) hC dX11_year_69 cl_11_255 rfl rfl (Nat.le_of_ble_eq_true rfl) cr_X11_draw hq ?_
    refine st_if_ne (tg := 96) (pc := 72) hC dX11_year_72 (by decide) (ite_im h (fun h => ?_) (fun h => ?_))
    · refine st_iload_n (pc := 75) hC dX11_year_75 rfl ?_
      refine st_aload_n (pc := 76) hC dX11_year_76 rfl (by decide) (by decide) ?_
      refine st_iload (pc := 77) hC dX11_year_77 rfl ?_
      obtain ⟨v4, σ4, hq, h⟩ := h
      refine st_invV (As := [iV v2]) (v := [iV v4]) (S := [iV x3]) (pc := 79) hC dX11_year_79 cl_11_244 rfl rfl (Nat.le_of_ble_eq_true rfl) cr_X11_taxes hq ?_
      refine st_iconst (pc := 82) hC dX11_year_82 (by decide) ?_
      refine st_icmp_ne (tg := 90) (pc := 83) hC dX11_year_83 (by decide) (ite_im h (fun h => ?_) (fun h => ?_))
      · refine st_iconst (pc := 86) hC dX11_year_86 (by decide) ?_
        refine st_goto (tg := 91) (pc := 87) hC dX11_year_87 (by decide) ?_
        refine st_isub (pc := 91) hC dX11_year_91 ?_
        refine st_istore_n (L2 := [rV 20 66, iV x1, iV x2, iV (w32 (x3 - 0)), iV x4, iV v2, uV]) (pc := 92) hC dX11_year_92 (Nat.le_of_ble_eq_true rfl) rfl ?_
        refine st_goto (tg := 143) (pc := 93) hC dX11_year_93 (by decide) ?_
        refine st_iinc (L2 := [rV 20 66, iV x1, iV x2, iV (w32 (x3 - 0)), iV (w32 (x4 + 1)), iV v2, uV]) (pc := 143) hC dX11_year_143 rfl (Nat.le_of_ble_eq_true rfl) rfl ?_
        refine st_goto (tg := 51) (pc := 146) hC dX11_year_146 (by decide) ?_
        exact st_fg (L2 := [rV 20 66, iV x1, iV x2, iV (w32 (x3 - 0)), iV (w32 (x4 + 1)), uV, uV]) hC ⟨Or.inl rfl, Or.inl rfl, Or.inl rfl, Or.inl rfl, Or.inl rfl, Or.inr rfl, Or.inl rfl, trivial⟩ h
      · refine st_iconst (pc := 90) hC dX11_year_90 (by decide) ?_
        refine st_isub (pc := 91) hC dX11_year_91 ?_
        refine st_istore_n (L2 := [rV 20 66, iV x1, iV x2, iV (w32 (x3 - 1)), iV x4, iV v2, uV]) (pc := 92) hC dX11_year_92 (Nat.le_of_ble_eq_true rfl) rfl ?_
        refine st_goto (tg := 143) (pc := 93) hC dX11_year_93 (by decide) ?_
        refine st_iinc (L2 := [rV 20 66, iV x1, iV x2, iV (w32 (x3 - 1)), iV (w32 (x4 + 1)), iV v2, uV]) (pc := 143) hC dX11_year_143 rfl (Nat.le_of_ble_eq_true rfl) rfl ?_
        refine st_goto (tg := 51) (pc := 146) hC dX11_year_146 (by decide) ?_
        exact st_fg (L2 := [rV 20 66, iV x1, iV x2, iV (w32 (x3 - 1)), iV (w32 (x4 + 1)), uV, uV]) hC ⟨Or.inl rfl, Or.inl rfl, Or.inl rfl, Or.inl rfl, Or.inl rfl, Or.inr rfl, Or.inl rfl, trivial⟩ h
    · refine st_aload_n (pc := 96) hC dX11_year_96 rfl (by decide) (by decide) ?_
      refine st_aload_n (pc := 97) hC dX11_year_97 rfl (by decide) (by decide) ?_
      obtain ⟨v5, hq, h⟩ := h
      refine st_invV (As := []) (v := [iV v5]) (S := [rV 20 66]) (pc := 98) hC dX11_year_98 cl_11_193 rfl rfl (Nat.le_of_ble_eq_true rfl) cr_X11_coins hq ?_
      obtain ⟨v6, σ6, hq, h⟩ := h
      refine st_invV (As := [iV v5]) (v := [iV v6]) (S := []) (pc := 101) hC dX11_year_101 cl_11_255 rfl rfl (Nat.le_of_ble_eq_true rfl) cr_X11_draw hq ?_
      refine st_istore (L2 := [rV 20 66, iV x1, iV x2, iV x3, iV x4, iV v2, iV v6]) (pc := 104) hC dX11_year_104 (Nat.le_of_ble_eq_true rfl) rfl ?_
      refine st_aload_n (pc := 106) hC dX11_year_106 rfl (by decide) (by decide) ?_
      refine st_iload (pc := 107) hC dX11_year_107 rfl ?_
      obtain ⟨v7, hq, h⟩ := h
      refine st_invV (As := [iV v2]) (v := [iV v7]) (S := []) (pc := 109) hC dX11_year_109 cl_11_217 rfl rfl (Nat.le_of_ble_eq_true rfl) cr_X11_size hq ?_
      refine st_bipush (pc := 112) hC dX11_year_112 (by decide) ?_
      refine st_icmp_ne (tg := 120) (pc := 114) hC dX11_year_114 (by decide) (ite_im h (fun h => ?_) (fun h => ?_))
      · refine st_goto (tg := 143) (pc := 117) hC dX11_year_117 (by decide) ?_
        refine st_iinc (L2 := [rV 20 66, iV x1, iV x2, iV x3, iV (w32 (x4 + 1)), iV v2, iV v6]) (pc := 143) hC dX11_year_143 rfl (Nat.le_of_ble_eq_true rfl) rfl ?_
        refine st_goto (tg := 51) (pc := 146) hC dX11_year_146 (by decide) ?_
        exact st_fg (L2 := [rV 20 66, iV x1, iV x2, iV x3, iV (w32 (x4 + 1)), uV, uV]) hC ⟨Or.inl rfl, Or.inl rfl, Or.inl rfl, Or.inl rfl, Or.inl rfl, Or.inr rfl, Or.inr rfl, trivial⟩ h
      · refine st_aload_n (pc := 120) hC dX11_year_120 rfl (by decide) (by decide) ?_
        refine st_getf (ci := 10) (f := 0) (v := rV 1000181 67) (pc := 121) hC dX11_year_121 fl_11_9 rfl rfl ?_
        refine st_bipush (pc := 124) hC dX11_year_124 (by decide) ?_
        refine st_bipush (pc := 126) hC dX11_year_126 (by decide) ?_
        refine st_iload (pc := 128) hC dX11_year_128 rfl ?_
        refine st_imul (pc := 130) hC dX11_year_130 ?_
        refine st_iadd (pc := 131) hC dX11_year_131 ?_
        refine st_iload (pc := 132) hC dX11_year_132 rfl ?_
        refine st_iadd (pc := 134) hC dX11_year_134 ?_
        refine st_dup2IR (pc := 135) hC dX11_year_135 (by decide) (by decide) ?_
        obtain ⟨hb, h⟩ := h
        refine st_iald (n := 181) (pc := 136) hC dX11_year_136 (by decide) hb ?_
        refine st_iconst (pc := 137) hC dX11_year_137 (by decide) ?_
        refine st_iadd (pc := 138) hC dX11_year_138 ?_
        obtain ⟨hb, h⟩ := h
        refine st_iast (n := 181) (pc := 139) hC dX11_year_139 (by decide) hb ?_
        refine st_iinc (L2 := [rV 20 66, iV x1, iV x2, iV (w32 (x3 + 1)), iV x4, iV v2, iV v6]) (pc := 140) hC dX11_year_140 rfl (Nat.le_of_ble_eq_true rfl) rfl ?_
        refine st_iinc (L2 := [rV 20 66, iV x1, iV x2, iV (w32 (x3 + 1)), iV (w32 (x4 + 1)), iV v2, iV v6]) (pc := 143) hC dX11_year_143 rfl (Nat.le_of_ble_eq_true rfl) rfl ?_
        refine st_goto (tg := 51) (pc := 146) hC dX11_year_146 (by decide) ?_
        exact st_fg (L2 := [rV 20 66, iV x1, iV x2, iV (w32 (x3 + 1)), iV (w32 (x4 + 1)), uV, uV]) hC ⟨Or.inl rfl, Or.inl rfl, Or.inl rfl, Or.inl rfl, Or.inl rfl, Or.inr rfl, Or.inr rfl, trivial⟩ h
  · refine st_iload_n (pc := 149) hC dX11_year_149 rfl ?_
    exact st_ireturn (pc := 150) hC dX11_year_150 trivial h
theorem bX11_trayFault_0 {C : Nat → List Vv → Sg → Rs → Sg → Prop} {X : Nat → List Vv → List Vv → Sg → Prop} {Xr : List Vv → Sg → Prop} {Xt : Nat → Sg → Prop} (hC : Clo C 11 cX11_trayFault (some .int) X Xr Xt) {x1 : Int} {σ : Sg} (h : ∃ v1 : Int, C MX11_isTray [iV x1] σ (.inl [iV v1]) σ ∧ (if v1 = 0 then (Xr [iV 1] σ) else ((0 ≤ x1 ∧ x1 < 4) ∧ (if (σ 77 (x1).toNat) = (-1) then (Xr [iV 2] σ) else (Xr [iV 0] σ))))) : X 0 [rV 20 66, iV x1] [] σ := by
  refine st_iload_n (pc := 0) hC dX11_trayFault_0 rfl ?_
  obtain ⟨v1, hq, h⟩ := h
  refine st_invS (As := [iV x1]) (v := [iV v1]) (S := []) (pc := 1) hC dX11_trayFault_1 cl_11_258 rfl rfl (Nat.le_of_ble_eq_true rfl) hq ?_
  refine st_if_ne (tg := 11) (pc := 4) hC dX11_trayFault_4 (by decide) (ite_im h (fun h => ?_) (fun h => ?_))
  · refine st_iconst (pc := 7) hC dX11_trayFault_7 (by decide) ?_
    refine st_goto (tg := 26) (pc := 8) hC dX11_trayFault_8 (by decide) ?_
    exact st_ireturn (pc := 26) hC dX11_trayFault_26 trivial h
  · refine st_aload_n (pc := 11) hC dX11_trayFault_11 rfl (by decide) (by decide) ?_
    refine st_getf (ci := 10) (f := 26) (v := rV 1000004 77) (pc := 12) hC dX11_trayFault_12 fl_11_47 rfl rfl ?_
    refine st_iload_n (pc := 15) hC dX11_trayFault_15 rfl ?_
    obtain ⟨hb, h⟩ := h
    refine st_iald (n := 4) (pc := 16) hC dX11_trayFault_16 (by decide) hb ?_
    refine st_iconst (pc := 17) hC dX11_trayFault_17 (by decide) ?_
    refine st_icmp_ne (tg := 25) (pc := 18) hC dX11_trayFault_18 (by decide) (ite_im h (fun h => ?_) (fun h => ?_))
    · refine st_iconst (pc := 21) hC dX11_trayFault_21 (by decide) ?_
      refine st_goto (tg := 26) (pc := 22) hC dX11_trayFault_22 (by decide) ?_
      exact st_ireturn (pc := 26) hC dX11_trayFault_26 trivial h
    · refine st_iconst (pc := 25) hC dX11_trayFault_25 (by decide) ?_
      exact st_ireturn (pc := 26) hC dX11_trayFault_26 trivial h
theorem bX11_dealWhy_0 {C : Nat → List Vv → Sg → Rs → Sg → Prop} {X : Nat → List Vv → List Vv → Sg → Prop} {Xr : List Vv → Sg → Prop} {Xt : Nat → Sg → Prop} (hC : Clo C 11 cX11_dealWhy (some .int) X Xr Xt) {x1 : Int} {σ : Sg} (h : if x1 < 0 then (Xr [iV 1] σ) else (∃ v1 : Int, C MX11_isPerson [rV 20 66, lV (w64 (x1.tdiv 1000))] σ (.inl [iV v1]) σ ∧ (if v1 = 0 then (Xr [iV 1] σ) else (∃ v2 : Int, C MX11_isPerson [rV 20 66, lV ((w64 (x1.tdiv 100)).tmod 10)] σ (.inl [iV v2]) σ ∧ (if v2 = 0 then (Xr [iV 1] σ) else (if (w64 (x1.tdiv 1000)) = ((w64 (x1.tdiv 100)).tmod 10) then (Xr [iV 1] σ) else (∃ v3 : Int, C MX11_coinOf [rV 1000181 67, lV (x1.tmod 100)] σ (.inl [iV v3]) σ ∧ (if v3 = (-1) then (Xr [iV 1] σ) else (∃ v4 : Int, C MX11_of [rV 20 66, iV (w32 ((w32 x1).tdiv 1000)), iV v3] σ (.inl [iV v4]) σ ∧ (if v4 = 0 then (Xr [iV 2] σ) else (∃ v5 : Int, C MX11_size [rV 20 66, iV ((w32 ((w32 x1).tdiv 100)).tmod 10)] σ (.inl [iV v5]) σ ∧ (if v5 = 9 then (Xr [iV 3] σ) else (Xr [iV 0] σ))))))))))))) : X 0 [rV 20 66, lV x1, uV, uV] [] σ := by
  refine st_lload_n (pc := 0) hC dX11_dealWhy_0 rfl ?_
  refine st_lconst0 (pc := 1) hC dX11_dealWhy_1 ?_
  refine st_lcmp_lt (tg := 52) (pc := 2) hC dX11_dealWhy_2 dX11_dealWhy_3 (by decide) (ite_im h (fun h => ?_) (fun h => ?_))
  · refine st_iconst (pc := 52) hC dX11_dealWhy_52 (by decide) ?_
    exact st_ireturn (pc := 53) hC dX11_dealWhy_53 trivial h
  · refine st_aload_n (pc := 6) hC dX11_dealWhy_6 rfl (by decide) (by decide) ?_
    refine st_lload_n (pc := 7) hC dX11_dealWhy_7 rfl ?_
    refine st_ldc2 (pc := 8) hC dX11_dealWhy_8 rfl ?_
    refine st_ldiv (pc := 11) hC dX11_dealWhy_11 (by decide) ?_
    obtain ⟨v1, hq, h⟩ := h
    refine st_invV (As := [lV (w64 (x1.tdiv 1000))]) (v := [iV v1]) (S := []) (pc := 12) hC dX11_dealWhy_12 cl_11_203 rfl rfl (Nat.le_of_ble_eq_true rfl) cr_X11_isPerson hq ?_
    refine st_if_eq (tg := 52) (pc := 15) hC dX11_dealWhy_15 (by decide) (ite_im h (fun h => ?_) (fun h => ?_))
    · refine st_iconst (pc := 52) hC dX11_dealWhy_52 (by decide) ?_
      exact st_ireturn (pc := 53) hC dX11_dealWhy_53 trivial h
    · refine st_aload_n (pc := 18) hC dX11_dealWhy_18 rfl (by decide) (by decide) ?_
      refine st_lload_n (pc := 19) hC dX11_dealWhy_19 rfl ?_
      refine st_ldc2 (pc := 20) hC dX11_dealWhy_20 rfl ?_
      refine st_ldiv (pc := 23) hC dX11_dealWhy_23 (by decide) ?_
      refine st_ldc2 (pc := 24) hC dX11_dealWhy_24 rfl ?_
      refine st_lrem (pc := 27) hC dX11_dealWhy_27 (by decide) ?_
      obtain ⟨v2, hq, h⟩ := h
      refine st_invV (As := [lV ((w64 (x1.tdiv 100)).tmod 10)]) (v := [iV v2]) (S := []) (pc := 28) hC dX11_dealWhy_28 cl_11_203 rfl rfl (Nat.le_of_ble_eq_true rfl) cr_X11_isPerson hq ?_
      refine st_if_eq (tg := 52) (pc := 31) hC dX11_dealWhy_31 (by decide) (ite_im h (fun h => ?_) (fun h => ?_))
      · refine st_iconst (pc := 52) hC dX11_dealWhy_52 (by decide) ?_
        exact st_ireturn (pc := 53) hC dX11_dealWhy_53 trivial h
      · refine st_lload_n (pc := 34) hC dX11_dealWhy_34 rfl ?_
        refine st_ldc2 (pc := 35) hC dX11_dealWhy_35 rfl ?_
        refine st_ldiv (pc := 38) hC dX11_dealWhy_38 (by decide) ?_
        refine st_lload_n (pc := 39) hC dX11_dealWhy_39 rfl ?_
        refine st_ldc2 (pc := 40) hC dX11_dealWhy_40 rfl ?_
        refine st_ldiv (pc := 43) hC dX11_dealWhy_43 (by decide) ?_
        refine st_ldc2 (pc := 44) hC dX11_dealWhy_44 rfl ?_
        refine st_lrem (pc := 47) hC dX11_dealWhy_47 (by decide) ?_
        refine st_lcmp_ne (tg := 54) (pc := 48) hC dX11_dealWhy_48 dX11_dealWhy_49 (by decide) (ite_im h (fun h => ?_) (fun h => ?_))
        · refine st_iconst (pc := 52) hC dX11_dealWhy_52 (by decide) ?_
          exact st_ireturn (pc := 53) hC dX11_dealWhy_53 trivial h
        · refine st_aload_n (pc := 54) hC dX11_dealWhy_54 rfl (by decide) (by decide) ?_
          refine st_getf (ci := 10) (f := 0) (v := rV 1000181 67) (pc := 55) hC dX11_dealWhy_55 fl_11_9 rfl rfl ?_
          refine st_lload_n (pc := 58) hC dX11_dealWhy_58 rfl ?_
          refine st_ldc2 (pc := 59) hC dX11_dealWhy_59 rfl ?_
          refine st_lrem (pc := 62) hC dX11_dealWhy_62 (by decide) ?_
          obtain ⟨v3, hq, h⟩ := h
          refine st_invS (As := [rV 1000181 67, lV (x1.tmod 100)]) (v := [iV v3]) (S := []) (pc := 63) hC dX11_dealWhy_63 cl_11_140 rfl rfl (Nat.le_of_ble_eq_true rfl) hq ?_
          refine st_istore_n (L2 := [rV 20 66, lV x1, uV, iV v3]) (pc := 66) hC dX11_dealWhy_66 (Nat.le_of_ble_eq_true rfl) rfl ?_
          refine st_iload_n (pc := 67) hC dX11_dealWhy_67 rfl ?_
          refine st_iconst (pc := 68) hC dX11_dealWhy_68 (by decide) ?_
          refine st_icmp_ne (tg := 74) (pc := 69) hC dX11_dealWhy_69 (by decide) (ite_im h (fun h => ?_) (fun h => ?_))
          · refine st_iconst (pc := 72) hC dX11_dealWhy_72 (by decide) ?_
            exact st_ireturn (pc := 73) hC dX11_dealWhy_73 trivial h
          · refine st_aload_n (pc := 74) hC dX11_dealWhy_74 rfl (by decide) (by decide) ?_
            refine st_lload_n (pc := 75) hC dX11_dealWhy_75 rfl ?_
            refine st_l2i (pc := 76) hC dX11_dealWhy_76 ?_
            refine st_sipush (pc := 77) hC dX11_dealWhy_77 (by decide) ?_
            refine st_idiv (pc := 80) hC dX11_dealWhy_80 (by decide) ?_
            refine st_iload_n (pc := 81) hC dX11_dealWhy_81 rfl ?_
            obtain ⟨v4, hq, h⟩ := h
            refine st_invV (As := [iV (w32 ((w32 x1).tdiv 1000)), iV v3]) (v := [iV v4]) (S := []) (pc := 82) hC dX11_dealWhy_82 cl_11_196 rfl rfl (Nat.le_of_ble_eq_true rfl) cr_X11_of hq ?_
            refine st_if_ne (tg := 92) (pc := 85) hC dX11_dealWhy_85 (by decide) (ite_im h (fun h => ?_) (fun h => ?_))
            · refine st_iconst (pc := 88) hC dX11_dealWhy_88 (by decide) ?_
              refine st_goto (tg := 114) (pc := 89) hC dX11_dealWhy_89 (by decide) ?_
              exact st_ireturn (pc := 114) hC dX11_dealWhy_114 trivial h
            · refine st_aload_n (pc := 92) hC dX11_dealWhy_92 rfl (by decide) (by decide) ?_
              refine st_lload_n (pc := 93) hC dX11_dealWhy_93 rfl ?_
              refine st_l2i (pc := 94) hC dX11_dealWhy_94 ?_
              refine st_bipush (pc := 95) hC dX11_dealWhy_95 (by decide) ?_
              refine st_idiv (pc := 97) hC dX11_dealWhy_97 (by decide) ?_
              refine st_bipush (pc := 98) hC dX11_dealWhy_98 (by decide) ?_
              refine st_irem (pc := 100) hC dX11_dealWhy_100 (by decide) ?_
              obtain ⟨v5, hq, h⟩ := h
              refine st_invV (As := [iV ((w32 ((w32 x1).tdiv 100)).tmod 10)]) (v := [iV v5]) (S := []) (pc := 101) hC dX11_dealWhy_101 cl_11_217 rfl rfl (Nat.le_of_ble_eq_true rfl) cr_X11_size hq ?_
              refine st_bipush (pc := 104) hC dX11_dealWhy_104 (by decide) ?_
              refine st_icmp_ne (tg := 113) (pc := 106) hC dX11_dealWhy_106 (by decide) (ite_im h (fun h => ?_) (fun h => ?_))
              · refine st_iconst (pc := 109) hC dX11_dealWhy_109 (by decide) ?_
                refine st_goto (tg := 114) (pc := 110) hC dX11_dealWhy_110 (by decide) ?_
                exact st_ireturn (pc := 114) hC dX11_dealWhy_114 trivial h
              · refine st_iconst (pc := 113) hC dX11_dealWhy_113 (by decide) ?_
                exact st_ireturn (pc := 114) hC dX11_dealWhy_114 trivial h
theorem bX11_goesBy_0 {C : Nat → List Vv → Sg → Rs → Sg → Prop} {X : Nat → List Vv → List Vv → Sg → Prop} {Xr : List Vv → Sg → Prop} {Xt : Nat → Sg → Prop} (hC : Clo C 11 cX11_goesBy (some .int) X Xr Xt) {x1 : Int} {σ : Sg} (h : X 2 [rV 20 66, iV x1, iV 0, uV, uV] [] σ) : X 0 [rV 20 66, iV x1, uV, uV, uV] [] σ := by
  refine st_iconst (pc := 0) hC dX11_goesBy_0 (by decide) ?_
  refine st_istore_n (L2 := [rV 20 66, iV x1, iV 0, uV, uV]) (pc := 1) hC dX11_goesBy_1 (Nat.le_of_ble_eq_true rfl) rfl ?_
  exact h
theorem bX11_goesBy_2 {C : Nat → List Vv → Sg → Rs → Sg → Prop} {X : Nat → List Vv → List Vv → Sg → Prop} {Xr : List Vv → Sg → Prop} {Xt : Nat → Sg → Prop} (hC : Clo C 11 cX11_goesBy (some .int) X Xr Xt) {x1 x2 : Int} {σ : Sg} (h : (0 ≤ x1 ∧ x1 < 4) ∧ (if x2 < (σ 78 (x1).toNat) then ((0 ≤ (w32 ((w32 (30 * x1)) + x2)) ∧ (w32 ((w32 (30 * x1)) + x2)) < 120) ∧ (∃ v1 : Int, C MX11_dealWhy [rV 20 66, lV (σ 79 ((w32 ((w32 (30 * x1)) + x2))).toNat)] σ (.inl [iV v1]) σ ∧ (if v1 = 0 then ((0 ≤ (w32 ((w32 (30 * x1)) + x2)) ∧ (w32 ((w32 (30 * x1)) + x2)) < 120) ∧ (∃ v2 : Int, C MX11_coinOf [rV 1000181 67, lV ((w32 (σ 79 ((w32 ((w32 (30 * x1)) + x2))).toNat)).tmod 100)] σ (.inl [iV v2]) σ ∧ ((0 ≤ (w32 ((w32 (12 + (w32 (8 * (w32 ((w32 (σ 79 ((w32 ((w32 (30 * x1)) + x2))).toNat)).tdiv 1000)))))) + v2)) ∧ (w32 ((w32 (12 + (w32 (8 * (w32 ((w32 (σ 79 ((w32 ((w32 (30 * x1)) + x2))).toNat)).tdiv 1000)))))) + v2)) < 181) ∧ ((0 ≤ (w32 ((w32 (12 + (w32 (8 * (w32 ((w32 (σ 79 ((w32 ((w32 (30 * x1)) + x2))).toNat)).tdiv 1000)))))) + v2)) ∧ (w32 ((w32 (12 + (w32 (8 * (w32 ((w32 (σ 79 ((w32 ((w32 (30 * x1)) + x2))).toNat)).tdiv 1000)))))) + v2)) < 181) ∧ ((0 ≤ (w32 ((w32 (12 + (w32 (8 * ((w32 ((w32 (σ 79 ((w32 ((w32 (30 * x1)) + x2))).toNat)).tdiv 100)).tmod 10))))) + v2)) ∧ (w32 ((w32 (12 + (w32 (8 * ((w32 ((w32 (σ 79 ((w32 ((w32 (30 * x1)) + x2))).toNat)).tdiv 100)).tmod 10))))) + v2)) < 181) ∧ ((0 ≤ (w32 ((w32 (12 + (w32 (8 * ((w32 ((w32 (σ 79 ((w32 ((w32 (30 * x1)) + x2))).toNat)).tdiv 100)).tmod 10))))) + v2)) ∧ (w32 ((w32 (12 + (w32 (8 * ((w32 ((w32 (σ 79 ((w32 ((w32 (30 * x1)) + x2))).toNat)).tdiv 100)).tmod 10))))) + v2)) < 181) ∧ (X 2 [rV 20 66, iV x1, iV (w32 (x2 + 1)), uV, uV] [] (upS (upS σ 67 ((w32 ((w32 (12 + (w32 (8 * (w32 ((w32 (σ 79 ((w32 ((w32 (30 * x1)) + x2))).toNat)).tdiv 1000)))))) + v2))).toNat (w32 ((σ 67 ((w32 ((w32 (12 + (w32 (8 * (w32 ((w32 (σ 79 ((w32 ((w32 (30 * x1)) + x2))).toNat)).tdiv 1000)))))) + v2))).toNat) - 1))) 67 ((w32 ((w32 (12 + (w32 (8 * ((w32 ((w32 (σ 79 ((w32 ((w32 (30 * x1)) + x2))).toNat)).tdiv 100)).tmod 10))))) + v2))).toNat (w32 (((upS σ 67 ((w32 ((w32 (12 + (w32 (8 * (w32 ((w32 (σ 79 ((w32 ((w32 (30 * x1)) + x2))).toNat)).tdiv 1000)))))) + v2))).toNat (w32 ((σ 67 ((w32 ((w32 (12 + (w32 (8 * (w32 ((w32 (σ 79 ((w32 ((w32 (30 * x1)) + x2))).toNat)).tdiv 1000)))))) + v2))).toNat) - 1))) 67 ((w32 ((w32 (12 + (w32 (8 * ((w32 ((w32 (σ 79 ((w32 ((w32 (30 * x1)) + x2))).toNat)).tdiv 100)).tmod 10))))) + v2))).toNat) + 1)))))))))) else (Xr [iV x2] σ)))) else (Xr [iV x2] σ))) : X 2 [rV 20 66, iV x1, iV x2, uV, uV] [] σ := by
  refine st_iload_n (pc := 2) hC dX11_goesBy_2 rfl ?_
  refine st_aload_n (pc := 3) hC dX11_goesBy_3 rfl (by decide) (by decide) ?_
  refine st_getf (ci := 10) (f := 27) (v := rV 1000004 78) (pc := 4) hC dX11_goesBy_4 fl_11_50 rfl rfl ?_
  refine st_iload_n (pc := 7) hC dX11_goesBy_7 rfl ?_
  obtain ⟨hb, h⟩ := h
  refine st_iald (n := 4) (pc := 8) hC dX11_goesBy_8 (by decide) hb ?_
  refine st_icmp_ge (tg := 111) (pc := 9) hC dX11_goesBy_9 (by decide) (ite_im h (fun h => ?_) (fun h => ?_))
  · refine st_aload_n (pc := 12) hC dX11_goesBy_12 rfl (by decide) (by decide) ?_
    refine st_aload_n (pc := 13) hC dX11_goesBy_13 rfl (by decide) (by decide) ?_
    refine st_getf (ci := 10) (f := 28) (v := rV 2000120 79) (pc := 14) hC dX11_goesBy_14 fl_11_53 rfl rfl ?_
    refine st_bipush (pc := 17) hC dX11_goesBy_17 (by decide) ?_
    refine st_iload_n (pc := 19) hC dX11_goesBy_19 rfl ?_
    refine st_imul (pc := 20) hC dX11_goesBy_20 ?_
    refine st_iload_n (pc := 21) hC dX11_goesBy_21 rfl ?_
    refine st_iadd (pc := 22) hC dX11_goesBy_22 ?_
    obtain ⟨hb, h⟩ := h
    refine st_lald (n := 120) (pc := 23) hC dX11_goesBy_23 (by decide) hb ?_
    obtain ⟨v1, hq, h⟩ := h
    refine st_invV (As := [lV (σ 79 ((w32 ((w32 (30 * x1)) + x2))).toNat)]) (v := [iV v1]) (S := []) (pc := 24) hC dX11_goesBy_24 cl_11_267 rfl rfl (Nat.le_of_ble_eq_true rfl) cr_X11_dealWhy hq ?_
    refine st_if_ne (tg := 111) (pc := 27) hC dX11_goesBy_27 (by decide) (ite_im h (fun h => ?_) (fun h => ?_))
    · refine st_aload_n (pc := 30) hC dX11_goesBy_30 rfl (by decide) (by decide) ?_
      refine st_getf (ci := 10) (f := 28) (v := rV 2000120 79) (pc := 31) hC dX11_goesBy_31 fl_11_53 rfl rfl ?_
      refine st_bipush (pc := 34) hC dX11_goesBy_34 (by decide) ?_
      refine st_iload_n (pc := 36) hC dX11_goesBy_36 rfl ?_
      refine st_imul (pc := 37) hC dX11_goesBy_37 ?_
      refine st_iload_n (pc := 38) hC dX11_goesBy_38 rfl ?_
      refine st_iadd (pc := 39) hC dX11_goesBy_39 ?_
      obtain ⟨hb, h⟩ := h
      refine st_lald (n := 120) (pc := 40) hC dX11_goesBy_40 (by decide) hb ?_
      refine st_l2i (pc := 41) hC dX11_goesBy_41 ?_
      refine st_istore_n (L2 := [rV 20 66, iV x1, iV x2, iV (w32 (σ 79 ((w32 ((w32 (30 * x1)) + x2))).toNat)), uV]) (pc := 42) hC dX11_goesBy_42 (Nat.le_of_ble_eq_true rfl) rfl ?_
      refine st_aload_n (pc := 43) hC dX11_goesBy_43 rfl (by decide) (by decide) ?_
      refine st_getf (ci := 10) (f := 0) (v := rV 1000181 67) (pc := 44) hC dX11_goesBy_44 fl_11_9 rfl rfl ?_
      refine st_iload_n (pc := 47) hC dX11_goesBy_47 rfl ?_
      refine st_bipush (pc := 48) hC dX11_goesBy_48 (by decide) ?_
      refine st_irem (pc := 50) hC dX11_goesBy_50 (by decide) ?_
      refine st_i2l (pc := 51) hC dX11_goesBy_51 ?_
      obtain ⟨v2, hq, h⟩ := h
      refine st_invS (As := [rV 1000181 67, lV ((w32 (σ 79 ((w32 ((w32 (30 * x1)) + x2))).toNat)).tmod 100)]) (v := [iV v2]) (S := []) (pc := 52) hC dX11_goesBy_52 cl_11_140 rfl rfl (Nat.le_of_ble_eq_true rfl) hq ?_
      refine st_istore (L2 := [rV 20 66, iV x1, iV x2, iV (w32 (σ 79 ((w32 ((w32 (30 * x1)) + x2))).toNat)), iV v2]) (pc := 55) hC dX11_goesBy_55 (Nat.le_of_ble_eq_true rfl) rfl ?_
      refine st_aload_n (pc := 57) hC dX11_goesBy_57 rfl (by decide) (by decide) ?_
      refine st_getf (ci := 10) (f := 0) (v := rV 1000181 67) (pc := 58) hC dX11_goesBy_58 fl_11_9 rfl rfl ?_
      refine st_bipush (pc := 61) hC dX11_goesBy_61 (by decide) ?_
      refine st_bipush (pc := 63) hC dX11_goesBy_63 (by decide) ?_
      refine st_iload_n (pc := 65) hC dX11_goesBy_65 rfl ?_
      refine st_sipush (pc := 66) hC dX11_goesBy_66 (by decide) ?_
      refine st_idiv (pc := 69) hC dX11_goesBy_69 (by decide) ?_
      refine st_imul (pc := 70) hC dX11_goesBy_70 ?_
      refine st_iadd (pc := 71) hC dX11_goesBy_71 ?_
      refine st_iload (pc := 72) hC dX11_goesBy_72 rfl ?_
      refine st_iadd (pc := 74) hC dX11_goesBy_74 ?_
      refine st_dup2IR (pc := 75) hC dX11_goesBy_75 (by decide) (by decide) ?_
      obtain ⟨hb, h⟩ := h
      refine st_iald (n := 181) (pc := 76) hC dX11_goesBy_76 (by decide) hb ?_
      refine st_iconst (pc := 77) hC dX11_goesBy_77 (by decide) ?_
      refine st_isub (pc := 78) hC dX11_goesBy_78 ?_
      obtain ⟨hb, h⟩ := h
      refine st_iast (n := 181) (pc := 79) hC dX11_goesBy_79 (by decide) hb ?_
      refine st_aload_n (pc := 80) hC dX11_goesBy_80 rfl (by decide) (by decide) ?_
      refine st_getf (ci := 10) (f := 0) (v := rV 1000181 67) (pc := 81) hC dX11_goesBy_81 fl_11_9 rfl rfl ?_
      refine st_bipush (pc := 84) hC dX11_goesBy_84 (by decide) ?_
      refine st_bipush (pc := 86) hC dX11_goesBy_86 (by decide) ?_
      refine st_iload_n (pc := 88) hC dX11_goesBy_88 rfl ?_
      refine st_bipush (pc := 89) hC dX11_goesBy_89 (by decide) ?_
      refine st_idiv (pc := 91) hC dX11_goesBy_91 (by decide) ?_
      refine st_bipush (pc := 92) hC dX11_goesBy_92 (by decide) ?_
      refine st_irem (pc := 94) hC dX11_goesBy_94 (by decide) ?_
      refine st_imul (pc := 95) hC dX11_goesBy_95 ?_
      refine st_iadd (pc := 96) hC dX11_goesBy_96 ?_
      refine st_iload (pc := 97) hC dX11_goesBy_97 rfl ?_
      refine st_iadd (pc := 99) hC dX11_goesBy_99 ?_
      refine st_dup2IR (pc := 100) hC dX11_goesBy_100 (by decide) (by decide) ?_
      obtain ⟨hb, h⟩ := h
      refine st_iald (n := 181) (pc := 101) hC dX11_goesBy_101 (by decide) hb ?_
      refine st_iconst (pc := 102) hC dX11_goesBy_102 (by decide) ?_
      refine st_iadd (pc := 103) hC dX11_goesBy_103 ?_
      obtain ⟨hb, h⟩ := h
      refine st_iast (n := 181) (pc := 104) hC dX11_goesBy_104 (by decide) hb ?_
      refine st_iinc (L2 := [rV 20 66, iV x1, iV (w32 (x2 + 1)), iV (w32 (σ 79 ((w32 ((w32 (30 * x1)) + x2))).toNat)), iV v2]) (pc := 105) hC dX11_goesBy_105 rfl (Nat.le_of_ble_eq_true rfl) rfl ?_
      refine st_goto (tg := 2) (pc := 108) hC dX11_goesBy_108 (by decide) ?_
      exact st_fg (L2 := [rV 20 66, iV x1, iV (w32 (x2 + 1)), uV, uV]) hC ⟨Or.inl rfl, Or.inl rfl, Or.inl rfl, Or.inr rfl, Or.inr rfl, trivial⟩ h
    · refine st_iload_n (pc := 111) hC dX11_goesBy_111 rfl ?_
      exact st_ireturn (pc := 112) hC dX11_goesBy_112 trivial h
  · refine st_iload_n (pc := 111) hC dX11_goesBy_111 rfl ?_
    exact st_ireturn (pc := 112) hC dX11_goesBy_112 trivial h
theorem bX11_richest_0 {C : Nat → List Vv → Sg → Rs → Sg → Prop} {X : Nat → List Vv → List Vv → Sg → Prop} {Xr : List Vv → Sg → Prop} {Xt : Nat → Sg → Prop} (hC : Clo C 11 cX11_richest (some .int) X Xr Xt) {σ : Sg} (h : X 4 [rV 20 66, iV (-1), iV 0] [] σ) : X 0 [rV 20 66, uV, uV] [] σ := by
  refine st_iconst (pc := 0) hC dX11_richest_0 (by decide) ?_
  refine st_istore_n (L2 := [rV 20 66, iV (-1), uV]) (pc := 1) hC dX11_richest_1 (Nat.le_of_ble_eq_true rfl) rfl ?_
  refine st_iconst (pc := 2) hC dX11_richest_2 (by decide) ?_
  refine st_istore_n (L2 := [rV 20 66, iV (-1), iV 0]) (pc := 3) hC dX11_richest_3 (Nat.le_of_ble_eq_true rfl) rfl ?_
  exact h
theorem bX11_richest_4 {C : Nat → List Vv → Sg → Rs → Sg → Prop} {X : Nat → List Vv → List Vv → Sg → Prop} {Xr : List Vv → Sg → Prop} {Xt : Nat → Sg → Prop} (hC : Clo C 11 cX11_richest (some .int) X Xr Xt) {x1 x2 : Int} {σ : Sg} (h : ∃ v1 : Int, C MX11_people [rV 20 66] σ (.inl [iV v1]) σ ∧ (if x2 < v1 then (if x1 = (-1) then (X 4 [rV 20 66, iV x2, iV (w32 (x2 + 1))] [] σ) else (∃ v2 : Int, C MX11_worthOf [rV 20 66, iV x2] σ (.inl [lV v2]) σ ∧ (∃ v3 : Int, C MX11_worthOf [rV 20 66, iV x1] σ (.inl [lV v3]) σ ∧ (if v3 < v2 then (X 4 [rV 20 66, iV x2, iV (w32 (x2 + 1))] [] σ) else (X 4 [rV 20 66, iV x1, iV (w32 (x2 + 1))] [] σ))))) else (Xr [iV x1] σ))) : X 4 [rV 20 66, iV x1, iV x2] [] σ := by
  refine st_iload_n (pc := 4) hC dX11_richest_4 rfl ?_
  refine st_aload_n (pc := 5) hC dX11_richest_5 rfl (by decide) (by decide) ?_
  obtain ⟨v1, hq, h⟩ := h
  refine st_invV (As := []) (v := [iV v1]) (S := [iV x2]) (pc := 6) hC dX11_richest_6 cl_11_190 rfl rfl (Nat.le_of_ble_eq_true rfl) cr_X11_people hq ?_
  refine st_icmp_ge (tg := 39) (pc := 9) hC dX11_richest_9 (by decide) (ite_im h (fun h => ?_) (fun h => ?_))
  · refine st_iload_n (pc := 12) hC dX11_richest_12 rfl ?_
    refine st_iconst (pc := 13) hC dX11_richest_13 (by decide) ?_
    refine st_icmp_eq (tg := 31) (pc := 14) hC dX11_richest_14 (by decide) (ite_im h (fun h => ?_) (fun h => ?_))
    · refine st_iload_n (pc := 31) hC dX11_richest_31 rfl ?_
      refine st_istore_n (L2 := [rV 20 66, iV x2, iV x2]) (pc := 32) hC dX11_richest_32 (Nat.le_of_ble_eq_true rfl) rfl ?_
      refine st_iinc (L2 := [rV 20 66, iV x2, iV (w32 (x2 + 1))]) (pc := 33) hC dX11_richest_33 rfl (Nat.le_of_ble_eq_true rfl) rfl ?_
      refine st_goto (tg := 4) (pc := 36) hC dX11_richest_36 (by decide) ?_
      exact h
    · refine st_aload_n (pc := 17) hC dX11_richest_17 rfl (by decide) (by decide) ?_
      refine st_iload_n (pc := 18) hC dX11_richest_18 rfl ?_
      obtain ⟨v2, hq, h⟩ := h
      refine st_invV (As := [iV x2]) (v := [lV v2]) (S := []) (pc := 19) hC dX11_richest_19 cl_11_220 rfl rfl (Nat.le_of_ble_eq_true rfl) cr_X11_worthOf hq ?_
      refine st_aload_n (pc := 22) hC dX11_richest_22 rfl (by decide) (by decide) ?_
      refine st_iload_n (pc := 23) hC dX11_richest_23 rfl ?_
      obtain ⟨v3, hq, h⟩ := h
      refine st_invV (As := [iV x1]) (v := [lV v3]) (S := [lV v2]) (pc := 24) hC dX11_richest_24 cl_11_220 rfl rfl (Nat.le_of_ble_eq_true rfl) cr_X11_worthOf hq ?_
      refine st_lcmp_le (tg := 33) (pc := 27) hC dX11_richest_27 dX11_richest_28 (by decide) (ite_im h (fun h => ?_) (fun h => ?_))
      · refine st_iload_n (pc := 31) hC dX11_richest_31 rfl ?_
        refine st_istore_n (L2 := [rV 20 66, iV x2, iV x2]) (pc := 32) hC dX11_richest_32 (Nat.le_of_ble_eq_true rfl) rfl ?_
        refine st_iinc (L2 := [rV 20 66, iV x2, iV (w32 (x2 + 1))]) (pc := 33) hC dX11_richest_33 rfl (Nat.le_of_ble_eq_true rfl) rfl ?_
        refine st_goto (tg := 4) (pc := 36) hC dX11_richest_36 (by decide) ?_
        exact h
      · refine st_iinc (L2 := [rV 20 66, iV x1, iV (w32 (x2 + 1))]) (pc := 33) hC dX11_richest_33 rfl (Nat.le_of_ble_eq_true rfl) rfl ?_
        refine st_goto (tg := 4) (pc := 36) hC dX11_richest_36 (by decide) ?_
        exact h
  · refine st_iload_n (pc := 39) hC dX11_richest_39 rfl ?_
    exact st_ireturn (pc := 40) hC dX11_richest_40 trivial h
theorem bX11_judge_0 {C : Nat → List Vv → Sg → Rs → Sg → Prop} {X : Nat → List Vv → List Vv → Sg → Prop} {Xr : List Vv → Sg → Prop} {Xt : Nat → Sg → Prop} (hC : Clo C 11 cX11_judge (some .int) X Xr Xt) {x1 x2 : Int} {σ : Sg} (h : ∃ v1 : Int, C MX11_trayFault [rV 20 66, iV x1] σ (.inl [iV v1]) σ ∧ (if ((upS σ 66 5 v1) 66 5) = 0 then (∃ v2 : Int, C MX11_within [lV x2, lV 0, lV 2] (upS σ 66 5 v1) (.inl [iV v2]) (upS σ 66 5 v1) ∧ (if v2 = 0 then (if (0 : Int) < ((upS (upS σ 66 5 v1) 66 5 3) 66 5) then (Xr [iV 0] (upS (upS σ 66 5 v1) 66 5 3)) else (∃ σ3 : Sg, C MX11_copies [rV 1000181 67, rV 1000181 69] (upS (upS σ 66 5 v1) 66 5 3) (.inl []) σ3 ∧ (∃ v4 : Int, ∃ σ4 : Sg, C MX11_goesBy [rV 20 66, iV x1] σ3 (.inl [iV v4]) σ4 ∧ ((0 ≤ x1 ∧ x1 < 4) ∧ (if v4 = (σ4 78 (x1).toNat) then (∃ v5 : Int, C MX11_richest [rV 20 66] σ4 (.inl [iV v5]) σ4 ∧ (∃ σ6 : Sg, C MX11_copies [rV 1000181 69, rV 1000181 67] σ4 (.inl []) σ6 ∧ (if x2 = 0 then (Xr [iV (-1)] σ6) else (if x2 = 1 then (Xr [iV 0] σ6) else (Xr [iV v5] σ6))))) else ((0 ≤ (w32 ((w32 (30 * x1)) + v4)) ∧ (w32 ((w32 (30 * x1)) + v4)) < 120) ∧ (∃ v7 : Int, C MX11_dealWhy [rV 20 66, lV (σ4 79 ((w32 ((w32 (30 * x1)) + v4))).toNat)] σ4 (.inl [iV v7]) σ4 ∧ (∃ v8 : Int, C MX11_richest [rV 20 66] σ4 (.inl [iV v8]) σ4 ∧ (∃ σ9 : Sg, C MX11_copies [rV 1000181 69, rV 1000181 67] σ4 (.inl []) σ9 ∧ (if x2 = 0 then (if v7 = 0 then (Xr [iV (-1)] σ9) else (Xr [iV v4] σ9)) else (if x2 = 1 then (Xr [iV v7] σ9) else (Xr [iV v8] σ9)))))))))))) else (if (0 : Int) < ((upS σ 66 5 v1) 66 5) then (Xr [iV 0] (upS σ 66 5 v1)) else (∃ σ10 : Sg, C MX11_copies [rV 1000181 67, rV 1000181 69] (upS σ 66 5 v1) (.inl []) σ10 ∧ (∃ v11 : Int, ∃ σ11 : Sg, C MX11_goesBy [rV 20 66, iV x1] σ10 (.inl [iV v11]) σ11 ∧ ((0 ≤ x1 ∧ x1 < 4) ∧ (if v11 = (σ11 78 (x1).toNat) then (∃ v12 : Int, C MX11_richest [rV 20 66] σ11 (.inl [iV v12]) σ11 ∧ (∃ σ13 : Sg, C MX11_copies [rV 1000181 69, rV 1000181 67] σ11 (.inl []) σ13 ∧ (if x2 = 0 then (Xr [iV (-1)] σ13) else (if x2 = 1 then (Xr [iV 0] σ13) else (Xr [iV v12] σ13))))) else ((0 ≤ (w32 ((w32 (30 * x1)) + v11)) ∧ (w32 ((w32 (30 * x1)) + v11)) < 120) ∧ (∃ v14 : Int, C MX11_dealWhy [rV 20 66, lV (σ11 79 ((w32 ((w32 (30 * x1)) + v11))).toNat)] σ11 (.inl [iV v14]) σ11 ∧ (∃ v15 : Int, C MX11_richest [rV 20 66] σ11 (.inl [iV v15]) σ11 ∧ (∃ σ16 : Sg, C MX11_copies [rV 1000181 69, rV 1000181 67] σ11 (.inl []) σ16 ∧ (if x2 = 0 then (if v14 = 0 then (Xr [iV (-1)] σ16) else (Xr [iV v11] σ16)) else (if x2 = 1 then (Xr [iV v14] σ16) else (Xr [iV v15] σ16)))))))))))))) else (if (0 : Int) < ((upS σ 66 5 v1) 66 5) then (Xr [iV 0] (upS σ 66 5 v1)) else (∃ σ17 : Sg, C MX11_copies [rV 1000181 67, rV 1000181 69] (upS σ 66 5 v1) (.inl []) σ17 ∧ (∃ v18 : Int, ∃ σ18 : Sg, C MX11_goesBy [rV 20 66, iV x1] σ17 (.inl [iV v18]) σ18 ∧ ((0 ≤ x1 ∧ x1 < 4) ∧ (if v18 = (σ18 78 (x1).toNat) then (∃ v19 : Int, C MX11_richest [rV 20 66] σ18 (.inl [iV v19]) σ18 ∧ (∃ σ20 : Sg, C MX11_copies [rV 1000181 69, rV 1000181 67] σ18 (.inl []) σ20 ∧ (if x2 = 0 then (Xr [iV (-1)] σ20) else (if x2 = 1 then (Xr [iV 0] σ20) else (Xr [iV v19] σ20))))) else ((0 ≤ (w32 ((w32 (30 * x1)) + v18)) ∧ (w32 ((w32 (30 * x1)) + v18)) < 120) ∧ (∃ v21 : Int, C MX11_dealWhy [rV 20 66, lV (σ18 79 ((w32 ((w32 (30 * x1)) + v18))).toNat)] σ18 (.inl [iV v21]) σ18 ∧ (∃ v22 : Int, C MX11_richest [rV 20 66] σ18 (.inl [iV v22]) σ18 ∧ (∃ σ23 : Sg, C MX11_copies [rV 1000181 69, rV 1000181 67] σ18 (.inl []) σ23 ∧ (if x2 = 0 then (if v21 = 0 then (Xr [iV (-1)] σ23) else (Xr [iV v18] σ23)) else (if x2 = 1 then (Xr [iV v21] σ23) else (Xr [iV v22] σ23)))))))))))))) : X 0 [rV 20 66, iV x1, iV x2, uV, uV, uV] [] σ := by
  refine st_aload_n (pc := 0) hC dX11_judge_0 rfl (by decide) (by decide) ?_
  refine st_aload_n (pc := 1) hC dX11_judge_1 rfl (by decide) (by decide) ?_
  refine st_iload_n (pc := 2) hC dX11_judge_2 rfl ?_
  obtain ⟨v1, hq, h⟩ := h
  refine st_invV (As := [iV x1]) (v := [iV v1]) (S := [rV 20 66]) (pc := 3) hC dX11_judge_3 cl_11_271 rfl rfl (Nat.le_of_ble_eq_true rfl) cr_X11_trayFault hq ?_
  refine st_putfI (ci := 10) (f := 5) (pc := 6) hC dX11_judge_6 fl_11_64 rfl rfl ?_
  refine st_aload_n (pc := 9) hC dX11_judge_9 rfl (by decide) (by decide) ?_
  refine st_getf (ci := 10) (f := 5) (v := iV ((upS σ 66 5 v1) 66 5)) (pc := 10) hC dX11_judge_10 fl_11_64 rfl rfl ?_
  refine st_if_ne (tg := 33) (pc := 13) hC dX11_judge_13 (by decide) (ite_im h (fun h => ?_) (fun h => ?_))
  · refine st_iload_n (pc := 16) hC dX11_judge_16 rfl ?_
    refine st_i2l (pc := 17) hC dX11_judge_17 ?_
    refine st_lconst0 (pc := 18) hC dX11_judge_18 ?_
    refine st_ldc2 (pc := 19) hC dX11_judge_19 rfl ?_
    obtain ⟨v2, hq, h⟩ := h
    refine st_invS (As := [lV x2, lV 0, lV 2]) (v := [iV v2]) (S := []) (pc := 22) hC dX11_judge_22 cl_11_133 rfl rfl (Nat.le_of_ble_eq_true rfl) hq ?_
    refine st_if_ne (tg := 33) (pc := 25) hC dX11_judge_25 (by decide) (ite_im h (fun h => ?_) (fun h => ?_))
    · refine st_aload_n (pc := 28) hC dX11_judge_28 rfl (by decide) (by decide) ?_
      refine st_iconst (pc := 29) hC dX11_judge_29 (by decide) ?_
      refine st_putfI (ci := 10) (f := 5) (pc := 30) hC dX11_judge_30 fl_11_64 rfl rfl ?_
      refine st_aload_n (pc := 33) hC dX11_judge_33 rfl (by decide) (by decide) ?_
      refine st_getf (ci := 10) (f := 5) (v := iV ((upS (upS σ 66 5 v1) 66 5 3) 66 5)) (pc := 34) hC dX11_judge_34 fl_11_64 rfl rfl ?_
      refine st_if_le (tg := 42) (pc := 37) hC dX11_judge_37 (by decide) (ite_im h (fun h => ?_) (fun h => ?_))
      · refine st_iconst (pc := 40) hC dX11_judge_40 (by decide) ?_
        exact st_ireturn (pc := 41) hC dX11_judge_41 trivial h
      · refine st_aload_n (pc := 42) hC dX11_judge_42 rfl (by decide) (by decide) ?_
        refine st_getf (ci := 10) (f := 0) (v := rV 1000181 67) (pc := 43) hC dX11_judge_43 fl_11_9 rfl rfl ?_
        refine st_aload_n (pc := 46) hC dX11_judge_46 rfl (by decide) (by decide) ?_
        refine st_getf (ci := 10) (f := 2) (v := rV 1000181 69) (pc := 47) hC dX11_judge_47 fl_11_16 rfl rfl ?_
        obtain ⟨σ3, hq, h⟩ := h
        refine st_invS (As := [rV 1000181 67, rV 1000181 69]) (v := []) (S := []) (pc := 50) hC dX11_judge_50 cl_11_60 rfl rfl (Nat.le_of_ble_eq_true rfl) hq ?_
        refine st_aload_n (pc := 53) hC dX11_judge_53 rfl (by decide) (by decide) ?_
        refine st_iload_n (pc := 54) hC dX11_judge_54 rfl ?_
        obtain ⟨v4, σ4, hq, h⟩ := h
        refine st_invV (As := [iV x1]) (v := [iV v4]) (S := []) (pc := 55) hC dX11_judge_55 cl_11_274 rfl rfl (Nat.le_of_ble_eq_true rfl) cr_X11_goesBy hq ?_
        refine st_istore_n (L2 := [rV 20 66, iV x1, iV x2, iV v4, uV, uV]) (pc := 58) hC dX11_judge_58 (Nat.le_of_ble_eq_true rfl) rfl ?_
        refine st_iload_n (pc := 59) hC dX11_judge_59 rfl ?_
        refine st_aload_n (pc := 60) hC dX11_judge_60 rfl (by decide) (by decide) ?_
        refine st_getf (ci := 10) (f := 27) (v := rV 1000004 78) (pc := 61) hC dX11_judge_61 fl_11_50 rfl rfl ?_
        refine st_iload_n (pc := 64) hC dX11_judge_64 rfl ?_
        obtain ⟨hb, h⟩ := h
        refine st_iald (n := 4) (pc := 65) hC dX11_judge_65 (by decide) hb ?_
        refine st_icmp_ne (tg := 73) (pc := 66) hC dX11_judge_66 (by decide) (ite_im h (fun h => ?_) (fun h => ?_))
        · refine st_iconst (pc := 69) hC dX11_judge_69 (by decide) ?_
          refine st_goto (tg := 88) (pc := 70) hC dX11_judge_70 (by decide) ?_
          refine st_istore (L2 := [rV 20 66, iV x1, iV x2, iV v4, iV 0, uV]) (pc := 88) hC dX11_judge_88 (Nat.le_of_ble_eq_true rfl) rfl ?_
          refine st_aload_n (pc := 90) hC dX11_judge_90 rfl (by decide) (by decide) ?_
          obtain ⟨v5, hq, h⟩ := h
          refine st_invV (As := []) (v := [iV v5]) (S := []) (pc := 91) hC dX11_judge_91 cl_11_277 rfl rfl (Nat.le_of_ble_eq_true rfl) cr_X11_richest hq ?_
          refine st_istore (L2 := [rV 20 66, iV x1, iV x2, iV v4, iV 0, iV v5]) (pc := 94) hC dX11_judge_94 (Nat.le_of_ble_eq_true rfl) rfl ?_
          refine st_aload_n (pc := 96) hC dX11_judge_96 rfl (by decide) (by decide) ?_
          refine st_getf (ci := 10) (f := 2) (v := rV 1000181 69) (pc := 97) hC dX11_judge_97 fl_11_16 rfl rfl ?_
          refine st_aload_n (pc := 100) hC dX11_judge_100 rfl (by decide) (by decide) ?_
          refine st_getf (ci := 10) (f := 0) (v := rV 1000181 67) (pc := 101) hC dX11_judge_101 fl_11_9 rfl rfl ?_
          obtain ⟨σ6, hq, h⟩ := h
          refine st_invS (As := [rV 1000181 69, rV 1000181 67]) (v := []) (S := []) (pc := 104) hC dX11_judge_104 cl_11_60 rfl rfl (Nat.le_of_ble_eq_true rfl) hq ?_
          refine st_iload_n (pc := 107) hC dX11_judge_107 rfl ?_
          refine st_if_ne (tg := 124) (pc := 108) hC dX11_judge_108 (by decide) (ite_im h (fun h => ?_) (fun h => ?_))
          · refine st_iload (pc := 111) hC dX11_judge_111 rfl ?_
            refine st_if_ne (tg := 120) (pc := 113) hC dX11_judge_113 (by decide) ?_
            rw [if_pos (by decide)]
            refine st_iconst (pc := 116) hC dX11_judge_116 (by decide) ?_
            refine st_goto (tg := 136) (pc := 117) hC dX11_judge_117 (by decide) ?_
            exact st_ireturn (pc := 136) hC dX11_judge_136 trivial h
          · refine st_iload_n (pc := 124) hC dX11_judge_124 rfl ?_
            refine st_iconst (pc := 125) hC dX11_judge_125 (by decide) ?_
            refine st_icmp_ne (tg := 134) (pc := 126) hC dX11_judge_126 (by decide) (ite_im h (fun h => ?_) (fun h => ?_))
            · refine st_iload (pc := 129) hC dX11_judge_129 rfl ?_
              refine st_goto (tg := 136) (pc := 131) hC dX11_judge_131 (by decide) ?_
              exact st_ireturn (pc := 136) hC dX11_judge_136 trivial h
            · refine st_iload (pc := 134) hC dX11_judge_134 rfl ?_
              exact st_ireturn (pc := 136) hC dX11_judge_136 trivial h
        · refine st_aload_n (pc := 73) hC dX11_judge_73 rfl (by decide) (by decide) ?_
          refine st_aload_n (pc := 74) hC dX11_judge_74 rfl (by decide) (by decide) ?_
          refine st_getf (ci := 10) (f := 28) (v := rV 2000120 79) (pc := 75) hC dX11_judge_75 fl_11_53 rfl rfl ?_
          refine st_bipush (pc := 78) hC dX11_judge_78 (by decide) ?_
          refine st_iload_n (pc := 80) hC dX11_judge_80 rfl ?_
          refine st_imul (pc := 81) hC dX11_judge_81 ?_
          refine st_iload_n (pc := 82) hC dX11_judge_82 rfl ?_
          refine st_iadd (pc := 83) hC dX11_judge_83 ?_
          obtain ⟨hb, h⟩ := h
          refine st_lald (n := 120) (pc := 84) hC dX11_judge_84 (by decide) hb ?_
          obtain ⟨v7, hq, h⟩ := h
          refine st_invV (As := [lV (σ4 79 ((w32 ((w32 (30 * x1)) + v4))).toNat)]) (v := [iV v7]) (S := []) (pc := 85) hC dX11_judge_85 cl_11_267 rfl rfl (Nat.le_of_ble_eq_true rfl) cr_X11_dealWhy hq ?_
          refine st_istore (L2 := [rV 20 66, iV x1, iV x2, iV v4, iV v7, uV]) (pc := 88) hC dX11_judge_88 (Nat.le_of_ble_eq_true rfl) rfl ?_
          refine st_aload_n (pc := 90) hC dX11_judge_90 rfl (by decide) (by decide) ?_
          obtain ⟨v8, hq, h⟩ := h
          refine st_invV (As := []) (v := [iV v8]) (S := []) (pc := 91) hC dX11_judge_91 cl_11_277 rfl rfl (Nat.le_of_ble_eq_true rfl) cr_X11_richest hq ?_
          refine st_istore (L2 := [rV 20 66, iV x1, iV x2, iV v4, iV v7, iV v8]) (pc := 94) hC dX11_judge_94 (Nat.le_of_ble_eq_true rfl) rfl ?_
          refine st_aload_n (pc := 96) hC dX11_judge_96 rfl (by decide) (by decide) ?_
          refine st_getf (ci := 10) (f := 2) (v := rV 1000181 69) (pc := 97) hC dX11_judge_97 fl_11_16 rfl rfl ?_
          refine st_aload_n (pc := 100) hC dX11_judge_100 rfl (by decide) (by decide) ?_
          refine st_getf (ci := 10) (f := 0) (v := rV 1000181 67) (pc := 101) hC dX11_judge_101 fl_11_9 rfl rfl ?_
          obtain ⟨σ9, hq, h⟩ := h
          refine st_invS (As := [rV 1000181 69, rV 1000181 67]) (v := []) (S := []) (pc := 104) hC dX11_judge_104 cl_11_60 rfl rfl (Nat.le_of_ble_eq_true rfl) hq ?_
          refine st_iload_n (pc := 107) hC dX11_judge_107 rfl ?_
          refine st_if_ne (tg := 124) (pc := 108) hC dX11_judge_108 (by decide) (ite_im h (fun h => ?_) (fun h => ?_))
          · refine st_iload (pc := 111) hC dX11_judge_111 rfl ?_
            refine st_if_ne (tg := 120) (pc := 113) hC dX11_judge_113 (by decide) (ite_im h (fun h => ?_) (fun h => ?_))
            · refine st_iconst (pc := 116) hC dX11_judge_116 (by decide) ?_
              refine st_goto (tg := 136) (pc := 117) hC dX11_judge_117 (by decide) ?_
              exact st_ireturn (pc := 136) hC dX11_judge_136 trivial h
            · refine st_iload_n (pc := 120) hC dX11_judge_120 rfl ?_
              refine st_goto (tg := 136) (pc := 121) hC dX11_judge_121 (by decide) ?_
              exact st_ireturn (pc := 136) hC dX11_judge_136 trivial h
          · refine st_iload_n (pc := 124) hC dX11_judge_124 rfl ?_
            refine st_iconst (pc := 125) hC dX11_judge_125 (by decide) ?_
            refine st_icmp_ne (tg := 134) (pc := 126) hC dX11_judge_126 (by decide) (ite_im h (fun h => ?_) (fun h => ?_))
            · refine st_iload (pc := 129) hC dX11_judge_129 rfl ?_
              refine st_goto (tg := 136) (pc := 131) hC dX11_judge_131 (by decide) ?_
              exact st_ireturn (pc := 136) hC dX11_judge_136 trivial h
            · refine st_iload (pc := 134) hC dX11_judge_134 rfl ?_
              exact st_ireturn (pc := 136) hC dX11_judge_136 trivial h
    · refine st_aload_n (pc := 33) hC dX11_judge_33 rfl (by decide) (by decide) ?_
      refine st_getf (ci := 10) (f := 5) (v := iV ((upS σ 66 5 v1) 66 5)) (pc := 34) hC dX11_judge_34 fl_11_64 rfl rfl ?_
      refine st_if_le (tg := 42) (pc := 37) hC dX11_judge_37 (by decide) (ite_im h (fun h => ?_) (fun h => ?_))
      · refine st_iconst (pc := 40) hC dX11_judge_40 (by decide) ?_
        exact st_ireturn (pc := 41) hC dX11_judge_41 trivial h
      · refine st_aload_n (pc := 42) hC dX11_judge_42 rfl (by decide) (by decide) ?_
        refine st_getf (ci := 10) (f := 0) (v := rV 1000181 67) (pc := 43) hC dX11_judge_43 fl_11_9 rfl rfl ?_
        refine st_aload_n (pc := 46) hC dX11_judge_46 rfl (by decide) (by decide) ?_
        refine st_getf (ci := 10) (f := 2) (v := rV 1000181 69) (pc := 47) hC dX11_judge_47 fl_11_16 rfl rfl ?_
        obtain ⟨σ10, hq, h⟩ := h
        refine st_invS (As := [rV 1000181 67, rV 1000181 69]) (v := []) (S := []) (pc := 50) hC dX11_judge_50 cl_11_60 rfl rfl (Nat.le_of_ble_eq_true rfl) hq ?_
        refine st_aload_n (pc := 53) hC dX11_judge_53 rfl (by decide) (by decide) ?_
        refine st_iload_n (pc := 54) hC dX11_judge_54 rfl ?_
        obtain ⟨v11, σ11, hq, h⟩ := h
        refine st_invV (As := [iV x1]) (v := [iV v11]) (S := []) (pc := 55) hC dX11_judge_55 cl_11_274 rfl rfl (Nat.le_of_ble_eq_true rfl) cr_X11_goesBy hq ?_
        refine st_istore_n (L2 := [rV 20 66, iV x1, iV x2, iV v11, uV, uV]) (pc := 58) hC dX11_judge_58 (Nat.le_of_ble_eq_true rfl) rfl ?_
        refine st_iload_n (pc := 59) hC dX11_judge_59 rfl ?_
        refine st_aload_n (pc := 60) hC dX11_judge_60 rfl (by decide) (by decide) ?_
        refine st_getf (ci := 10) (f := 27) (v := rV 1000004 78) (pc := 61) hC dX11_judge_61 fl_11_50 rfl rfl ?_
        refine st_iload_n (pc := 64) hC dX11_judge_64 rfl ?_
        obtain ⟨hb, h⟩ := h
        refine st_iald (n := 4) (pc := 65) hC dX11_judge_65 (by decide) hb ?_
        refine st_icmp_ne (tg := 73) (pc := 66) hC dX11_judge_66 (by decide) (ite_im h (fun h => ?_) (fun h => ?_))
        · refine st_iconst (pc := 69) hC dX11_judge_69 (by decide) ?_
          refine st_goto (tg := 88) (pc := 70) hC dX11_judge_70 (by decide) ?_
          refine st_istore (L2 := [rV 20 66, iV x1, iV x2, iV v11, iV 0, uV]) (pc := 88) hC dX11_judge_88 (Nat.le_of_ble_eq_true rfl) rfl ?_
          refine st_aload_n (pc := 90) hC dX11_judge_90 rfl (by decide) (by decide) ?_
          obtain ⟨v12, hq, h⟩ := h
          refine st_invV (As := []) (v := [iV v12]) (S := []) (pc := 91) hC dX11_judge_91 cl_11_277 rfl rfl (Nat.le_of_ble_eq_true rfl) cr_X11_richest hq ?_
          refine st_istore (L2 := [rV 20 66, iV x1, iV x2, iV v11, iV 0, iV v12]) (pc := 94) hC dX11_judge_94 (Nat.le_of_ble_eq_true rfl) rfl ?_
          refine st_aload_n (pc := 96) hC dX11_judge_96 rfl (by decide) (by decide) ?_
          refine st_getf (ci := 10) (f := 2) (v := rV 1000181 69) (pc := 97) hC dX11_judge_97 fl_11_16 rfl rfl ?_
          refine st_aload_n (pc := 100) hC dX11_judge_100 rfl (by decide) (by decide) ?_
          refine st_getf (ci := 10) (f := 0) (v := rV 1000181 67) (pc := 101) hC dX11_judge_101 fl_11_9 rfl rfl ?_
          obtain ⟨σ13, hq, h⟩ := h
          refine st_invS (As := [rV 1000181 69, rV 1000181 67]) (v := []) (S := []) (pc := 104) hC dX11_judge_104 cl_11_60 rfl rfl (Nat.le_of_ble_eq_true rfl) hq ?_
          refine st_iload_n (pc := 107) hC dX11_judge_107 rfl ?_
          refine st_if_ne (tg := 124) (pc := 108) hC dX11_judge_108 (by decide) (ite_im h (fun h => ?_) (fun h => ?_))
          · refine st_iload (pc := 111) hC dX11_judge_111 rfl ?_
            refine st_if_ne (tg := 120) (pc := 113) hC dX11_judge_113 (by decide) ?_
            rw [if_pos (by decide)]
            refine st_iconst (pc := 116) hC dX11_judge_116 (by decide) ?_
            refine st_goto (tg := 136) (pc := 117) hC dX11_judge_117 (by decide) ?_
            exact st_ireturn (pc := 136) hC dX11_judge_136 trivial h
          · refine st_iload_n (pc := 124) hC dX11_judge_124 rfl ?_
            refine st_iconst (pc := 125) hC dX11_judge_125 (by decide) ?_
            refine st_icmp_ne (tg := 134) (pc := 126) hC dX11_judge_126 (by decide) (ite_im h (fun h => ?_) (fun h => ?_))
            · refine st_iload (pc := 129) hC dX11_judge_129 rfl ?_
              refine st_goto (tg := 136) (pc := 131) hC dX11_judge_131 (by decide) ?_
              exact st_ireturn (pc := 136) hC dX11_judge_136 trivial h
            · refine st_iload (pc := 134) hC dX11_judge_134 rfl ?_
              exact st_ireturn (pc := 136) hC dX11_judge_136 trivial h
        · refine st_aload_n (pc := 73) hC dX11_judge_73 rfl (by decide) (by decide) ?_
          refine st_aload_n (pc := 74) hC dX11_judge_74 rfl (by decide) (by decide) ?_
          refine st_getf (ci := 10) (f := 28) (v := rV 2000120 79) (pc := 75) hC dX11_judge_75 fl_11_53 rfl rfl ?_
          refine st_bipush (pc := 78) hC dX11_judge_78 (by decide) ?_
          refine st_iload_n (pc := 80) hC dX11_judge_80 rfl ?_
          refine st_imul (pc := 81) hC dX11_judge_81 ?_
          refine st_iload_n (pc := 82) hC dX11_judge_82 rfl ?_
          refine st_iadd (pc := 83) hC dX11_judge_83 ?_
          obtain ⟨hb, h⟩ := h
          refine st_lald (n := 120) (pc := 84) hC dX11_judge_84 (by decide) hb ?_
          obtain ⟨v14, hq, h⟩ := h
          refine st_invV (As := [lV (σ11 79 ((w32 ((w32 (30 * x1)) + v11))).toNat)]) (v := [iV v14]) (S := []) (pc := 85) hC dX11_judge_85 cl_11_267 rfl rfl (Nat.le_of_ble_eq_true rfl) cr_X11_dealWhy hq ?_
          refine st_istore (L2 := [rV 20 66, iV x1, iV x2, iV v11, iV v14, uV]) (pc := 88) hC dX11_judge_88 (Nat.le_of_ble_eq_true rfl) rfl ?_
          refine st_aload_n (pc := 90) hC dX11_judge_90 rfl (by decide) (by decide) ?_
          obtain ⟨v15, hq, h⟩ := h
          refine st_invV (As := []) (v := [iV v15]) (S := []) (pc := 91) hC dX11_judge_91 cl_11_277 rfl rfl (Nat.le_of_ble_eq_true rfl) cr_X11_richest hq ?_
          refine st_istore (L2 := [rV 20 66, iV x1, iV x2, iV v11, iV v14, iV v15]) (pc := 94) hC dX11_judge_94 (Nat.le_of_ble_eq_true rfl) rfl ?_
          refine st_aload_n (pc := 96) hC dX11_judge_96 rfl (by decide) (by decide) ?_
          refine st_getf (ci := 10) (f := 2) (v := rV 1000181 69) (pc := 97) hC dX11_judge_97 fl_11_16 rfl rfl ?_
          refine st_aload_n (pc := 100) hC dX11_judge_100 rfl (by decide) (by decide) ?_
          refine st_getf (ci := 10) (f := 0) (v := rV 1000181 67) (pc := 101) hC dX11_judge_101 fl_11_9 rfl rfl ?_
          obtain ⟨σ16, hq, h⟩ := h
          refine st_invS (As := [rV 1000181 69, rV 1000181 67]) (v := []) (S := []) (pc := 104) hC dX11_judge_104 cl_11_60 rfl rfl (Nat.le_of_ble_eq_true rfl) hq ?_
          refine st_iload_n (pc := 107) hC dX11_judge_107 rfl ?_
          refine st_if_ne (tg := 124) (pc := 108) hC dX11_judge_108 (by decide) (ite_im h (fun h => ?_) (fun h => ?_))
          · refine st_iload (pc := 111) hC dX11_judge_111 rfl ?_
            refine st_if_ne (tg := 120) (pc := 113) hC dX11_judge_113 (by decide) (ite_im h (fun h => ?_) (fun h => ?_))
            · refine st_iconst (pc := 116) hC dX11_judge_116 (by decide) ?_
              refine st_goto (tg := 136) (pc := 117) hC dX11_judge_117 (by decide) ?_
              exact st_ireturn (pc := 136) hC dX11_judge_136 trivial h
            · refine st_iload_n (pc := 120) hC dX11_judge_120 rfl ?_
              refine st_goto (tg := 136) (pc := 121) hC dX11_judge_121 (by decide) ?_
              exact st_ireturn (pc := 136) hC dX11_judge_136 trivial h
          · refine st_iload_n (pc := 124) hC dX11_judge_124 rfl ?_
            refine st_iconst (pc := 125) hC dX11_judge_125 (by decide) ?_
            refine st_icmp_ne (tg := 134) (pc := 126) hC dX11_judge_126 (by decide) (ite_im h (fun h => ?_) (fun h => ?_))
            · refine st_iload (pc := 129) hC dX11_judge_129 rfl ?_
              refine st_goto (tg := 136) (pc := 131) hC dX11_judge_131 (by decide) ?_
              exact st_ireturn (pc := 136) hC dX11_judge_136 trivial h
            · refine st_iload (pc := 134) hC dX11_judge_134 rfl ?_
              exact st_ireturn (pc := 136) hC dX11_judge_136 trivial h
  · refine st_aload_n (pc := 33) hC dX11_judge_33 rfl (by decide) (by decide) ?_
    refine st_getf (ci := 10) (f := 5) (v := iV ((upS σ 66 5 v1) 66 5)) (pc := 34) hC dX11_judge_34 fl_11_64 rfl rfl ?_
    refine st_if_le (tg := 42) (pc := 37) hC dX11_judge_37 (by decide) (ite_im h (fun h => ?_) (fun h => ?_))
    · refine st_iconst (pc := 40) hC dX11_judge_40 (by decide) ?_
      exact st_ireturn (pc := 41) hC dX11_judge_41 trivial h
    · refine st_aload_n (pc := 42) hC dX11_judge_42 rfl (by decide) (by decide) ?_
      refine st_getf (ci := 10) (f := 0) (v := rV 1000181 67) (pc := 43) hC dX11_judge_43 fl_11_9 rfl rfl ?_
      refine st_aload_n (pc := 46) hC dX11_judge_46 rfl (by decide) (by decide) ?_
      refine st_getf (ci := 10) (f := 2) (v := rV 1000181 69) (pc := 47) hC dX11_judge_47 fl_11_16 rfl rfl ?_
      obtain ⟨σ17, hq, h⟩ := h
      refine st_invS (As := [rV 1000181 67, rV 1000181 69]) (v := []) (S := []) (pc := 50) hC dX11_judge_50 cl_11_60 rfl rfl (Nat.le_of_ble_eq_true rfl) hq ?_
      refine st_aload_n (pc := 53) hC dX11_judge_53 rfl (by decide) (by decide) ?_
      refine st_iload_n (pc := 54) hC dX11_judge_54 rfl ?_
      obtain ⟨v18, σ18, hq, h⟩ := h
      refine st_invV (As := [iV x1]) (v := [iV v18]) (S := []) (pc := 55) hC dX11_judge_55 cl_11_274 rfl rfl (Nat.le_of_ble_eq_true rfl) cr_X11_goesBy hq ?_
      refine st_istore_n (L2 := [rV 20 66, iV x1, iV x2, iV v18, uV, uV]) (pc := 58) hC dX11_judge_58 (Nat.le_of_ble_eq_true rfl) rfl ?_
      refine st_iload_n (pc := 59) hC dX11_judge_59 rfl ?_
      refine st_aload_n (pc := 60) hC dX11_judge_60 rfl (by decide) (by decide) ?_
      refine st_getf (ci := 10) (f := 27) (v := rV 1000004 78) (pc := 61) hC dX11_judge_61 fl_11_50 rfl rfl ?_
      refine st_iload_n (pc := 64) hC dX11_judge_64 rfl ?_
      obtain ⟨hb, h⟩ := h
      refine st_iald (n := 4) (pc := 65) hC dX11_judge_65 (by decide) hb ?_
      refine st_icmp_ne (tg := 73) (pc := 66) hC dX11_judge_66 (by decide) (ite_im h (fun h => ?_) (fun h => ?_))
      · refine st_iconst (pc := 69) hC dX11_judge_69 (by decide) ?_
        refine st_goto (tg := 88) (pc := 70) hC dX11_judge_70 (by decide) ?_
        refine st_istore (L2 := [rV 20 66, iV x1, iV x2, iV v18, iV 0, uV]) (pc := 88) hC dX11_judge_88 (Nat.le_of_ble_eq_true rfl) rfl ?_
        refine st_aload_n (pc := 90) hC dX11_judge_90 rfl (by decide) (by decide) ?_
        obtain ⟨v19, hq, h⟩ := h
        refine st_invV (As := []) (v := [iV v19]) (S := []) (pc := 91) hC dX11_judge_91 cl_11_277 rfl rfl (Nat.le_of_ble_eq_true rfl) cr_X11_richest hq ?_
        refine st_istore (L2 := [rV 20 66, iV x1, iV x2, iV v18, iV 0, iV v19]) (pc := 94) hC dX11_judge_94 (Nat.le_of_ble_eq_true rfl) rfl ?_
        refine st_aload_n (pc := 96) hC dX11_judge_96 rfl (by decide) (by decide) ?_
        refine st_getf (ci := 10) (f := 2) (v := rV 1000181 69) (pc := 97) hC dX11_judge_97 fl_11_16 rfl rfl ?_
        refine st_aload_n (pc := 100) hC dX11_judge_100 rfl (by decide) (by decide) ?_
        refine st_getf (ci := 10) (f := 0) (v := rV 1000181 67) (pc := 101) hC dX11_judge_101 fl_11_9 rfl rfl ?_
        obtain ⟨σ20, hq, h⟩ := h
        refine st_invS (As := [rV 1000181 69, rV 1000181 67]) (v := []) (S := []) (pc := 104) hC dX11_judge_104 cl_11_60 rfl rfl (Nat.le_of_ble_eq_true rfl) hq ?_
        refine st_iload_n (pc := 107) hC dX11_judge_107 rfl ?_
        refine st_if_ne (tg := 124) (pc := 108) hC dX11_judge_108 (by decide) (ite_im h (fun h => ?_) (fun h => ?_))
        · refine st_iload (pc := 111) hC dX11_judge_111 rfl ?_
          refine st_if_ne (tg := 120) (pc := 113) hC dX11_judge_113 (by decide) ?_
          rw [if_pos (by decide)]
          refine st_iconst (pc := 116) hC dX11_judge_116 (by decide) ?_
          refine st_goto (tg := 136) (pc := 117) hC dX11_judge_117 (by decide) ?_
          exact st_ireturn (pc := 136) hC dX11_judge_136 trivial h
        · refine st_iload_n (pc := 124) hC dX11_judge_124 rfl ?_
          refine st_iconst (pc := 125) hC dX11_judge_125 (by decide) ?_
          refine st_icmp_ne (tg := 134) (pc := 126) hC dX11_judge_126 (by decide) (ite_im h (fun h => ?_) (fun h => ?_))
          · refine st_iload (pc := 129) hC dX11_judge_129 rfl ?_
            refine st_goto (tg := 136) (pc := 131) hC dX11_judge_131 (by decide) ?_
            exact st_ireturn (pc := 136) hC dX11_judge_136 trivial h
          · refine st_iload (pc := 134) hC dX11_judge_134 rfl ?_
            exact st_ireturn (pc := 136) hC dX11_judge_136 trivial h
      · refine st_aload_n (pc := 73) hC dX11_judge_73 rfl (by decide) (by decide) ?_
        refine st_aload_n (pc := 74) hC dX11_judge_74 rfl (by decide) (by decide) ?_
        refine st_getf (ci := 10) (f := 28) (v := rV 2000120 79) (pc := 75) hC dX11_judge_75 fl_11_53 rfl rfl ?_
        refine st_bipush (pc := 78) hC dX11_judge_78 (by decide) ?_
        refine st_iload_n (pc := 80) hC dX11_judge_80 rfl ?_
        refine st_imul (pc := 81) hC dX11_judge_81 ?_
        refine st_iload_n (pc := 82) hC dX11_judge_82 rfl ?_
        refine st_iadd (pc := 83) hC dX11_judge_83 ?_
        obtain ⟨hb, h⟩ := h
        refine st_lald (n := 120) (pc := 84) hC dX11_judge_84 (by decide) hb ?_
        obtain ⟨v21, hq, h⟩ := h
        refine st_invV (As := [lV (σ18 79 ((w32 ((w32 (30 * x1)) + v18))).toNat)]) (v := [iV v21]) (S := []) (pc := 85) hC dX11_judge_85 cl_11_267 rfl rfl (Nat.le_of_ble_eq_true rfl) cr_X11_dealWhy hq ?_
        refine st_istore (L2 := [rV 20 66, iV x1, iV x2, iV v18, iV v21, uV]) (pc := 88) hC dX11_judge_88 (Nat.le_of_ble_eq_true rfl) rfl ?_
        refine st_aload_n (pc := 90) hC dX11_judge_90 rfl (by decide) (by decide) ?_
        obtain ⟨v22, hq, h⟩ := h
        refine st_invV (As := []) (v := [iV v22]) (S := []) (pc := 91) hC dX11_judge_91 cl_11_277 rfl rfl (Nat.le_of_ble_eq_true rfl) cr_X11_richest hq ?_
        refine st_istore (L2 := [rV 20 66, iV x1, iV x2, iV v18, iV v21, iV v22]) (pc := 94) hC dX11_judge_94 (Nat.le_of_ble_eq_true rfl) rfl ?_
        refine st_aload_n (pc := 96) hC dX11_judge_96 rfl (by decide) (by decide) ?_
        refine st_getf (ci := 10) (f := 2) (v := rV 1000181 69) (pc := 97) hC dX11_judge_97 fl_11_16 rfl rfl ?_
        refine st_aload_n (pc := 100) hC dX11_judge_100 rfl (by decide) (by decide) ?_
        refine st_getf (ci := 10) (f := 0) (v := rV 1000181 67) (pc := 101) hC dX11_judge_101 fl_11_9 rfl rfl ?_
        obtain ⟨σ23, hq, h⟩ := h
        refine st_invS (As := [rV 1000181 69, rV 1000181 67]) (v := []) (S := []) (pc := 104) hC dX11_judge_104 cl_11_60 rfl rfl (Nat.le_of_ble_eq_true rfl) hq ?_
        refine st_iload_n (pc := 107) hC dX11_judge_107 rfl ?_
        refine st_if_ne (tg := 124) (pc := 108) hC dX11_judge_108 (by decide) (ite_im h (fun h => ?_) (fun h => ?_))
        · refine st_iload (pc := 111) hC dX11_judge_111 rfl ?_
          refine st_if_ne (tg := 120) (pc := 113) hC dX11_judge_113 (by decide) (ite_im h (fun h => ?_) (fun h => ?_))
          · refine st_iconst (pc := 116) hC dX11_judge_116 (by decide) ?_
            refine st_goto (tg := 136) (pc := 117) hC dX11_judge_117 (by decide) ?_
            exact st_ireturn (pc := 136) hC dX11_judge_136 trivial h
          · refine st_iload_n (pc := 120) hC dX11_judge_120 rfl ?_
            refine st_goto (tg := 136) (pc := 121) hC dX11_judge_121 (by decide) ?_
            exact st_ireturn (pc := 136) hC dX11_judge_136 trivial h
        · refine st_iload_n (pc := 124) hC dX11_judge_124 rfl ?_
          refine st_iconst (pc := 125) hC dX11_judge_125 (by decide) ?_
          refine st_icmp_ne (tg := 134) (pc := 126) hC dX11_judge_126 (by decide) (ite_im h (fun h => ?_) (fun h => ?_))
          · refine st_iload (pc := 129) hC dX11_judge_129 rfl ?_
            refine st_goto (tg := 136) (pc := 131) hC dX11_judge_131 (by decide) ?_
            exact st_ireturn (pc := 136) hC dX11_judge_136 trivial h
          · refine st_iload (pc := 134) hC dX11_judge_134 rfl ?_
            exact st_ireturn (pc := 136) hC dX11_judge_136 trivial h
theorem bX11_perform_0 {C : Nat → List Vv → Sg → Rs → Sg → Prop} {X : Nat → List Vv → List Vv → Sg → Prop} {Xr : List Vv → Sg → Prop} {Xt : Nat → Sg → Prop} (hC : Clo C 11 cX11_perform (some .int) X Xr Xt) {x1 : Int} {σ : Sg} (h : ∃ v1 : Int, C MX11_trayFault [rV 20 66, iV x1] σ (.inl [iV v1]) σ ∧ (if (0 : Int) < ((upS σ 66 5 v1) 66 5) then (Xr [iV 0] (upS σ 66 5 v1)) else (∃ v2 : Int, ∃ σ2 : Sg, C MX11_goesBy [rV 20 66, iV x1] (upS σ 66 5 v1) (.inl [iV v2]) σ2 ∧ (Xr [iV v2] σ2)))) : X 0 [rV 20 66, iV x1] [] σ := by
  refine st_aload_n (pc := 0) hC dX11_perform_0 rfl (by decide) (by decide) ?_
  refine st_aload_n (pc := 1) hC dX11_perform_1 rfl (by decide) (by decide) ?_
  refine st_iload_n (pc := 2) hC dX11_perform_2 rfl ?_
  obtain ⟨v1, hq, h⟩ := h
  refine st_invV (As := [iV x1]) (v := [iV v1]) (S := [rV 20 66]) (pc := 3) hC dX11_perform_3 cl_11_271 rfl rfl (Nat.le_of_ble_eq_true rfl) cr_X11_trayFault hq ?_
  refine st_putfI (ci := 10) (f := 5) (pc := 6) hC dX11_perform_6 fl_11_64 rfl rfl ?_
  refine st_aload_n (pc := 9) hC dX11_perform_9 rfl (by decide) (by decide) ?_
  refine st_getf (ci := 10) (f := 5) (v := iV ((upS σ 66 5 v1) 66 5)) (pc := 10) hC dX11_perform_10 fl_11_64 rfl rfl ?_
  refine st_if_le (tg := 20) (pc := 13) hC dX11_perform_13 (by decide) (ite_im h (fun h => ?_) (fun h => ?_))
  · refine st_iconst (pc := 16) hC dX11_perform_16 (by decide) ?_
    refine st_goto (tg := 25) (pc := 17) hC dX11_perform_17 (by decide) ?_
    exact st_ireturn (pc := 25) hC dX11_perform_25 trivial h
  · refine st_aload_n (pc := 20) hC dX11_perform_20 rfl (by decide) (by decide) ?_
    refine st_iload_n (pc := 21) hC dX11_perform_21 rfl ?_
    obtain ⟨v2, σ2, hq, h⟩ := h
    refine st_invV (As := [iV x1]) (v := [iV v2]) (S := []) (pc := 22) hC dX11_perform_22 cl_11_274 rfl rfl (Nat.le_of_ble_eq_true rfl) cr_X11_goesBy hq ?_
    exact st_ireturn (pc := 25) hC dX11_perform_25 trivial h
theorem bX11_laysPrices_0 {C : Nat → List Vv → Sg → Rs → Sg → Prop} {X : Nat → List Vv → List Vv → Sg → Prop} {Xr : List Vv → Sg → Prop} {Xt : Nat → Sg → Prop} (hC : Clo C 11 cX11_laysPrices none X Xr Xt) {x1 : Int} {σ : Sg} (h : X 14 [rV 20 66, iV x1, iV 0, uV, uV, uV, uV, uV] [] (upS (upS σ 66 20 1) 74 0 1)) : X 0 [rV 20 66, iV x1, uV, uV, uV, uV, uV, uV] [] σ := by
  refine st_aload_n (pc := 0) hC dX11_laysPrices_0 rfl (by decide) (by decide) ?_
  refine st_iconst (pc := 1) hC dX11_laysPrices_1 (by decide) ?_
  refine st_putfI (ci := 10) (f := 20) (pc := 2) hC dX11_laysPrices_2 fl_11_280 rfl rfl ?_
  refine st_aload_n (pc := 5) hC dX11_laysPrices_5 rfl (by decide) (by decide) ?_
  refine st_getf (ci := 10) (f := 19) (v := rV 2000512 74) (pc := 6) hC dX11_laysPrices_6 fl_11_36 rfl rfl ?_
  refine st_iconst (pc := 9) hC dX11_laysPrices_9 (by decide) ?_
  refine st_lconst1 (pc := 10) hC dX11_laysPrices_10 ?_
  refine st_last (n := 512) (pc := 11) hC dX11_laysPrices_11 (by decide) ⟨by decide, by decide⟩ ?_
  refine st_iconst (pc := 12) hC dX11_laysPrices_12 (by decide) ?_
  refine st_istore_n (L2 := [rV 20 66, iV x1, iV 0, uV, uV, uV, uV, uV]) (pc := 13) hC dX11_laysPrices_13 (Nat.le_of_ble_eq_true rfl) rfl ?_
  exact h
theorem bX11_laysPrices_14 {C : Nat → List Vv → Sg → Rs → Sg → Prop} {X : Nat → List Vv → List Vv → Sg → Prop} {Xr : List Vv → Sg → Prop} {Xt : Nat → Sg → Prop} (hC : Clo C 11 cX11_laysPrices none X Xr Xt) {x1 x2 : Int} {σ : Sg} (h : ∃ v1 : Int, C MX11_coins [rV 20 66] σ (.inl [iV v1]) σ ∧ (if x2 < v1 then (X 33 [rV 20 66, iV x1, iV x2, iV (σ 66 20), lV 1, uV, iV 0, uV] [] σ) else (X 113 [rV 20 66, iV x1, iV 1, uV, uV, uV, uV, uV] [] σ))) : X 14 [rV 20 66, iV x1, iV x2, uV, uV, uV, uV, uV] [] σ := by
  refine st_iload_n (pc := 14) hC dX11_laysPrices_14 rfl ?_
  refine st_aload_n (pc := 15) hC dX11_laysPrices_15 rfl (by decide) (by decide) ?_
  obtain ⟨v1, hq, h⟩ := h
  refine st_invV (As := []) (v := [iV v1]) (S := [iV x2]) (pc := 16) hC dX11_laysPrices_16 cl_11_193 rfl rfl (Nat.le_of_ble_eq_true rfl) cr_X11_coins hq ?_
  refine st_icmp_ge (tg := 111) (pc := 19) hC dX11_laysPrices_19 (by decide) (ite_im h (fun h => ?_) (fun h => ?_))
  · refine st_aload_n (pc := 22) hC dX11_laysPrices_22 rfl (by decide) (by decide) ?_
    refine st_getf (ci := 10) (f := 20) (v := iV (σ 66 20)) (pc := 23) hC dX11_laysPrices_23 fl_11_280 rfl rfl ?_
    refine st_istore_n (L2 := [rV 20 66, iV x1, iV x2, iV (σ 66 20), uV, uV, uV, uV]) (pc := 26) hC dX11_laysPrices_26 (Nat.le_of_ble_eq_true rfl) rfl ?_
    refine st_lconst1 (pc := 27) hC dX11_laysPrices_27 ?_
    refine st_lstore (L2 := [rV 20 66, iV x1, iV x2, iV (σ 66 20), lV 1, uV, uV, uV]) (pc := 28) hC dX11_laysPrices_28 (Nat.le_of_ble_eq_true rfl) rfl ?_
    refine st_iconst (pc := 30) hC dX11_laysPrices_30 (by decide) ?_
    refine st_istore (L2 := [rV 20 66, iV x1, iV x2, iV (σ 66 20), lV 1, uV, iV 0, uV]) (pc := 31) hC dX11_laysPrices_31 (Nat.le_of_ble_eq_true rfl) rfl ?_
    exact h
  · refine st_iconst (pc := 111) hC dX11_laysPrices_111 (by decide) ?_
    refine st_istore_n (L2 := [rV 20 66, iV x1, iV 1, uV, uV, uV, uV, uV]) (pc := 112) hC dX11_laysPrices_112 (Nat.le_of_ble_eq_true rfl) rfl ?_
    exact h
theorem bX11_laysPrices_33 {C : Nat → List Vv → Sg → Rs → Sg → Prop} {X : Nat → List Vv → List Vv → Sg → Prop} {Xr : List Vv → Sg → Prop} {Xt : Nat → Sg → Prop} (hC : Clo C 11 cX11_laysPrices none X Xr Xt) {x1 x2 x3 x4 x6 : Int} {σ : Sg} (h : ∃ v1 : Int, C MX11_of [rV 20 66, iV x1, iV x2] σ (.inl [iV v1]) σ ∧ (if x6 < v1 then (∃ v2 : Int, C MX11_prime [rV 20 66, iV x2] σ (.inl [iV v2]) σ ∧ (X 58 [rV 20 66, iV x1, iV x2, iV x3, lV (w64 (x4 * v2)), uV, iV x6, iV 0] [] σ)) else (X 14 [rV 20 66, iV x1, iV (w32 (x2 + 1)), uV, uV, uV, uV, uV] [] σ))) : X 33 [rV 20 66, iV x1, iV x2, iV x3, lV x4, uV, iV x6, uV] [] σ := by
  refine st_iload (pc := 33) hC dX11_laysPrices_33 rfl ?_
  refine st_aload_n (pc := 35) hC dX11_laysPrices_35 rfl (by decide) (by decide) ?_
  refine st_iload_n (pc := 36) hC dX11_laysPrices_36 rfl ?_
  refine st_iload_n (pc := 37) hC dX11_laysPrices_37 rfl ?_
  obtain ⟨v1, hq, h⟩ := h
  refine st_invV (As := [iV x1, iV x2]) (v := [iV v1]) (S := [iV x6]) (pc := 38) hC dX11_laysPrices_38 cl_11_196 rfl rfl (Nat.le_of_ble_eq_true rfl) cr_X11_of hq ?_
  refine st_icmp_ge (tg := 105) (pc := 41) hC dX11_laysPrices_41 (by decide) (ite_im h (fun h => ?_) (fun h => ?_))
  · refine st_lload (pc := 44) hC dX11_laysPrices_44 rfl ?_
    refine st_aload_n (pc := 46) hC dX11_laysPrices_46 rfl (by decide) (by decide) ?_
    refine st_iload_n (pc := 47) hC dX11_laysPrices_47 rfl ?_
    obtain ⟨v2, hq, h⟩ := h
    refine st_invV (As := [iV x2]) (v := [iV v2]) (S := [lV x4]) (pc := 48) hC dX11_laysPrices_48 cl_11_200 rfl rfl (Nat.le_of_ble_eq_true rfl) cr_X11_prime hq ?_
    refine st_i2l (pc := 51) hC dX11_laysPrices_51 ?_
    refine st_lmul (pc := 52) hC dX11_laysPrices_52 ?_
    refine st_lstore (L2 := [rV 20 66, iV x1, iV x2, iV x3, lV (w64 (x4 * v2)), uV, iV x6, uV]) (pc := 53) hC dX11_laysPrices_53 (Nat.le_of_ble_eq_true rfl) rfl ?_
    refine st_iconst (pc := 55) hC dX11_laysPrices_55 (by decide) ?_
    refine st_istore (L2 := [rV 20 66, iV x1, iV x2, iV x3, lV (w64 (x4 * v2)), uV, iV x6, iV 0]) (pc := 56) hC dX11_laysPrices_56 (Nat.le_of_ble_eq_true rfl) rfl ?_
    exact h
  · refine st_iinc (L2 := [rV 20 66, iV x1, iV (w32 (x2 + 1)), iV x3, lV x4, uV, iV x6, uV]) (pc := 105) hC dX11_laysPrices_105 rfl (Nat.le_of_ble_eq_true rfl) rfl ?_
    refine st_goto (tg := 14) (pc := 108) hC dX11_laysPrices_108 (by decide) ?_
    exact st_fg (L2 := [rV 20 66, iV x1, iV (w32 (x2 + 1)), uV, uV, uV, uV, uV]) hC ⟨Or.inl rfl, Or.inl rfl, Or.inl rfl, Or.inr rfl, Or.inr rfl, Or.inl rfl, Or.inr rfl, Or.inl rfl, trivial⟩ h
theorem bX11_laysPrices_58 {C : Nat → List Vv → Sg → Rs → Sg → Prop} {X : Nat → List Vv → List Vv → Sg → Prop} {Xr : List Vv → Sg → Prop} {Xt : Nat → Sg → Prop} (hC : Clo C 11 cX11_laysPrices none X Xr Xt) {x1 x2 x3 x4 x6 x7 : Int} {σ : Sg} (h : if x7 < x3 then ((0 ≤ x7 ∧ x7 < 512) ∧ ((0 ≤ (σ 66 20) ∧ (σ 66 20) < 512) ∧ (X 58 [rV 20 66, iV x1, iV x2, iV x3, lV x4, uV, iV x6, iV (w32 (x7 + 1))] [] (upS (upS σ 74 ((σ 66 20)).toNat (w64 ((σ 74 (x7).toNat) * x4))) 66 20 (w32 (((upS σ 74 ((σ 66 20)).toNat (w64 ((σ 74 (x7).toNat) * x4))) 66 20) + 1)))))) else (X 33 [rV 20 66, iV x1, iV x2, iV x3, lV x4, uV, iV (w32 (x6 + 1)), uV] [] σ)) : X 58 [rV 20 66, iV x1, iV x2, iV x3, lV x4, uV, iV x6, iV x7] [] σ := by
  refine st_iload (pc := 58) hC dX11_laysPrices_58 rfl ?_
  refine st_iload_n (pc := 60) hC dX11_laysPrices_60 rfl ?_
  refine st_icmp_ge (tg := 99) (pc := 61) hC dX11_laysPrices_61 (by decide) (ite_im h (fun h => ?_) (fun h => ?_))
  · refine st_aload_n (pc := 64) hC dX11_laysPrices_64 rfl (by decide) (by decide) ?_
    refine st_getf (ci := 10) (f := 19) (v := rV 2000512 74) (pc := 65) hC dX11_laysPrices_65 fl_11_36 rfl rfl ?_
    refine st_aload_n (pc := 68) hC dX11_laysPrices_68 rfl (by decide) (by decide) ?_
    refine st_getf (ci := 10) (f := 20) (v := iV (σ 66 20)) (pc := 69) hC dX11_laysPrices_69 fl_11_280 rfl rfl ?_
    refine st_aload_n (pc := 72) hC dX11_laysPrices_72 rfl (by decide) (by decide) ?_
    refine st_getf (ci := 10) (f := 19) (v := rV 2000512 74) (pc := 73) hC dX11_laysPrices_73 fl_11_36 rfl rfl ?_
    refine st_iload (pc := 76) hC dX11_laysPrices_76 rfl ?_
    obtain ⟨hb, h⟩ := h
    refine st_lald (n := 512) (pc := 78) hC dX11_laysPrices_78 (by decide) hb ?_
    refine st_lload (pc := 79) hC dX11_laysPrices_79 rfl ?_
    refine st_lmul (pc := 81) hC dX11_laysPrices_81 ?_
    obtain ⟨hb, h⟩ := h
    refine st_last (n := 512) (pc := 82) hC dX11_laysPrices_82 (by decide) hb ?_
    refine st_aload_n (pc := 83) hC dX11_laysPrices_83 rfl (by decide) (by decide) ?_
    refine st_dupR (pc := 84) hC dX11_laysPrices_84 (by decide) (by decide) ?_
    refine st_getf (ci := 10) (f := 20) (v := iV ((upS σ 74 ((σ 66 20)).toNat (w64 ((σ 74 (x7).toNat) * x4))) 66 20)) (pc := 85) hC dX11_laysPrices_85 fl_11_280 rfl rfl ?_
    refine st_iconst (pc := 88) hC dX11_laysPrices_88 (by decide) ?_
    refine st_iadd (pc := 89) hC dX11_laysPrices_89 ?_
    refine st_putfI (ci := 10) (f := 20) (pc := 90) hC dX11_laysPrices_90 fl_11_280 rfl rfl ?_
    refine st_iinc (L2 := [rV 20 66, iV x1, iV x2, iV x3, lV x4, uV, iV x6, iV (w32 (x7 + 1))]) (pc := 93) hC dX11_laysPrices_93 rfl (Nat.le_of_ble_eq_true rfl) rfl ?_
    refine st_goto (tg := 58) (pc := 96) hC dX11_laysPrices_96 (by decide) ?_
    exact h
  · refine st_iinc (L2 := [rV 20 66, iV x1, iV x2, iV x3, lV x4, uV, iV (w32 (x6 + 1)), iV x7]) (pc := 99) hC dX11_laysPrices_99 rfl (Nat.le_of_ble_eq_true rfl) rfl ?_
    refine st_goto (tg := 33) (pc := 102) hC dX11_laysPrices_102 (by decide) ?_
    exact st_fg (L2 := [rV 20 66, iV x1, iV x2, iV x3, lV x4, uV, iV (w32 (x6 + 1)), uV]) hC ⟨Or.inl rfl, Or.inl rfl, Or.inl rfl, Or.inl rfl, Or.inl rfl, Or.inl rfl, Or.inl rfl, Or.inr rfl, trivial⟩ h
theorem bX11_laysPrices_113 {C : Nat → List Vv → Sg → Rs → Sg → Prop} {X : Nat → List Vv → List Vv → Sg → Prop} {Xr : List Vv → Sg → Prop} {Xt : Nat → Sg → Prop} (hC : Clo C 11 cX11_laysPrices none X Xr Xt) {x1 x2 : Int} {σ : Sg} (h : if x2 < (σ 66 20) then ((0 ≤ x2 ∧ x2 < 512) ∧ (X 131 [rV 20 66, iV x1, iV x2, lV (σ 74 (x2).toNat), uV, iV x2, uV, uV] [] σ)) else (Xr [] σ)) : X 113 [rV 20 66, iV x1, iV x2, uV, uV, uV, uV, uV] [] σ := by
  refine st_iload_n (pc := 113) hC dX11_laysPrices_113 rfl ?_
  refine st_aload_n (pc := 114) hC dX11_laysPrices_114 rfl (by decide) (by decide) ?_
  refine st_getf (ci := 10) (f := 20) (v := iV (σ 66 20)) (pc := 115) hC dX11_laysPrices_115 fl_11_280 rfl rfl ?_
  refine st_icmp_ge (tg := 186) (pc := 118) hC dX11_laysPrices_118 (by decide) (ite_im h (fun h => ?_) (fun h => ?_))
  · refine st_aload_n (pc := 121) hC dX11_laysPrices_121 rfl (by decide) (by decide) ?_
    refine st_getf (ci := 10) (f := 19) (v := rV 2000512 74) (pc := 122) hC dX11_laysPrices_122 fl_11_36 rfl rfl ?_
    refine st_iload_n (pc := 125) hC dX11_laysPrices_125 rfl ?_
    obtain ⟨hb, h⟩ := h
    refine st_lald (n := 512) (pc := 126) hC dX11_laysPrices_126 (by decide) hb ?_
    refine st_lstore_n (L2 := [rV 20 66, iV x1, iV x2, lV (σ 74 (x2).toNat), uV, uV, uV, uV]) (pc := 127) hC dX11_laysPrices_127 (Nat.le_of_ble_eq_true rfl) rfl ?_
    refine st_iload_n (pc := 128) hC dX11_laysPrices_128 rfl ?_
    refine st_istore (L2 := [rV 20 66, iV x1, iV x2, lV (σ 74 (x2).toNat), uV, iV x2, uV, uV]) (pc := 129) hC dX11_laysPrices_129 (Nat.le_of_ble_eq_true rfl) rfl ?_
    exact h
  · exact st_return (pc := 186) hC dX11_laysPrices_186 h
theorem bX11_laysPrices_131 {C : Nat → List Vv → Sg → Rs → Sg → Prop} {X : Nat → List Vv → List Vv → Sg → Prop} {Xr : List Vv → Sg → Prop} {Xt : Nat → Sg → Prop} (hC : Clo C 11 cX11_laysPrices none X Xr Xt) {x1 x2 x3 x5 : Int} {σ : Sg} (h : if (0 : Int) < x5 then ((0 ≤ (w32 (x5 - 1)) ∧ (w32 (x5 - 1)) < 512) ∧ (if x3 < (σ 74 ((w32 (x5 - 1))).toNat) then ((0 ≤ (w32 (x5 - 1)) ∧ (w32 (x5 - 1)) < 512) ∧ ((0 ≤ x5 ∧ x5 < 512) ∧ (X 131 [rV 20 66, iV x1, iV x2, lV x3, uV, iV (w32 (x5 + (-1))), uV, uV] [] (upS σ 74 (x5).toNat (σ 74 ((w32 (x5 - 1))).toNat))))) else ((0 ≤ x5 ∧ x5 < 512) ∧ (X 113 [rV 20 66, iV x1, iV (w32 (x2 + 1)), uV, uV, uV, uV, uV] [] (upS σ 74 (x5).toNat x3))))) else ((0 ≤ x5 ∧ x5 < 512) ∧ (X 113 [rV 20 66, iV x1, iV (w32 (x2 + 1)), uV, uV, uV, uV, uV] [] (upS σ 74 (x5).toNat x3)))) : X 131 [rV 20 66, iV x1, iV x2, lV x3, uV, iV x5, uV, uV] [] σ := by
  refine st_iload (pc := 131) hC dX11_laysPrices_131 rfl ?_
  refine st_if_le (tg := 172) (pc := 133) hC dX11_laysPrices_133 (by decide) (ite_im h (fun h => ?_) (fun h => ?_))
  · refine st_aload_n (pc := 136) hC dX11_laysPrices_136 rfl (by decide) (by decide) ?_
    refine st_getf (ci := 10) (f := 19) (v := rV 2000512 74) (pc := 137) hC dX11_laysPrices_137 fl_11_36 rfl rfl ?_
    refine st_iload (pc := 140) hC dX11_laysPrices_140 rfl ?_
    refine st_iconst (pc := 142) hC dX11_laysPrices_142 (by decide) ?_
    refine st_isub (pc := 143) hC dX11_laysPrices_143 ?_
    obtain ⟨hb, h⟩ := h
    refine st_lald (n := 512) (pc := 144) hC dX11_laysPrices_144 (by decide) hb ?_
    refine st_lload_n (pc := 145) hC dX11_laysPrices_145 rfl ?_
    refine st_lcmp_le (tg := 172) (pc := 146) hC dX11_laysPrices_146 dX11_laysPrices_147 (by decide) (ite_im h (fun h => ?_) (fun h => ?_))
    · refine st_aload_n (pc := 150) hC dX11_laysPrices_150 rfl (by decide) (by decide) ?_
      refine st_getf (ci := 10) (f := 19) (v := rV 2000512 74) (pc := 151) hC dX11_laysPrices_151 fl_11_36 rfl rfl ?_
      refine st_iload (pc := 154) hC dX11_laysPrices_154 rfl ?_
      refine st_aload_n (pc := 156) hC dX11_laysPrices_156 rfl (by decide) (by decide) ?_
      refine st_getf (ci := 10) (f := 19) (v := rV 2000512 74) (pc := 157) hC dX11_laysPrices_157 fl_11_36 rfl rfl ?_
      refine st_iload (pc := 160) hC dX11_laysPrices_160 rfl ?_
      refine st_iconst (pc := 162) hC dX11_laysPrices_162 (by decide) ?_
      refine st_isub (pc := 163) hC dX11_laysPrices_163 ?_
      obtain ⟨hb, h⟩ := h
      refine st_lald (n := 512) (pc := 164) hC dX11_laysPrices_164 (by decide) hb ?_
      obtain ⟨hb, h⟩ := h
      refine st_last (n := 512) (pc := 165) hC dX11_laysPrices_165 (by decide) hb ?_
      refine st_iinc (L2 := [rV 20 66, iV x1, iV x2, lV x3, uV, iV (w32 (x5 + (-1))), uV, uV]) (pc := 166) hC dX11_laysPrices_166 rfl (Nat.le_of_ble_eq_true rfl) rfl ?_
      refine st_goto (tg := 131) (pc := 169) hC dX11_laysPrices_169 (by decide) ?_
      exact h
    · refine st_aload_n (pc := 172) hC dX11_laysPrices_172 rfl (by decide) (by decide) ?_
      refine st_getf (ci := 10) (f := 19) (v := rV 2000512 74) (pc := 173) hC dX11_laysPrices_173 fl_11_36 rfl rfl ?_
      refine st_iload (pc := 176) hC dX11_laysPrices_176 rfl ?_
      refine st_lload_n (pc := 178) hC dX11_laysPrices_178 rfl ?_
      obtain ⟨hb, h⟩ := h
      refine st_last (n := 512) (pc := 179) hC dX11_laysPrices_179 (by decide) hb ?_
      refine st_iinc (L2 := [rV 20 66, iV x1, iV (w32 (x2 + 1)), lV x3, uV, iV x5, uV, uV]) (pc := 180) hC dX11_laysPrices_180 rfl (Nat.le_of_ble_eq_true rfl) rfl ?_
      refine st_goto (tg := 113) (pc := 183) hC dX11_laysPrices_183 (by decide) ?_
      exact st_fg (L2 := [rV 20 66, iV x1, iV (w32 (x2 + 1)), uV, uV, uV, uV, uV]) hC ⟨Or.inl rfl, Or.inl rfl, Or.inl rfl, Or.inr rfl, Or.inl rfl, Or.inr rfl, Or.inl rfl, Or.inl rfl, trivial⟩ h
  · refine st_aload_n (pc := 172) hC dX11_laysPrices_172 rfl (by decide) (by decide) ?_
    refine st_getf (ci := 10) (f := 19) (v := rV 2000512 74) (pc := 173) hC dX11_laysPrices_173 fl_11_36 rfl rfl ?_
    refine st_iload (pc := 176) hC dX11_laysPrices_176 rfl ?_
    refine st_lload_n (pc := 178) hC dX11_laysPrices_178 rfl ?_
    obtain ⟨hb, h⟩ := h
    refine st_last (n := 512) (pc := 179) hC dX11_laysPrices_179 (by decide) hb ?_
    refine st_iinc (L2 := [rV 20 66, iV x1, iV (w32 (x2 + 1)), lV x3, uV, iV x5, uV, uV]) (pc := 180) hC dX11_laysPrices_180 rfl (Nat.le_of_ble_eq_true rfl) rfl ?_
    refine st_goto (tg := 113) (pc := 183) hC dX11_laysPrices_183 (by decide) ?_
    exact st_fg (L2 := [rV 20 66, iV x1, iV (w32 (x2 + 1)), uV, uV, uV, uV, uV]) hC ⟨Or.inl rfl, Or.inl rfl, Or.inl rfl, Or.inr rfl, Or.inl rfl, Or.inr rfl, Or.inl rfl, Or.inl rfl, trivial⟩ h
theorem bX11_prices_0 {C : Nat → List Vv → Sg → Rs → Sg → Prop} {X : Nat → List Vv → List Vv → Sg → Prop} {Xr : List Vv → Sg → Prop} {Xt : Nat → Sg → Prop} (hC : Clo C 11 cX11_prices (some .int) X Xr Xt) {x1 : Int} {σ : Sg} (h : ∃ v1 : Int, C MX11_isPerson [rV 20 66, lV x1] (upS σ 66 5 0) (.inl [iV v1]) (upS σ 66 5 0) ∧ (if v1 = 0 then (∃ v2 : Int, ∃ σ2 : Sg, C MX11_fails [rV 20 66, iV 1] (upS σ 66 5 0) (.inl [iV v2]) σ2 ∧ (Xr [iV v2] σ2)) else (∃ σ3 : Sg, C MX11_laysPrices [rV 20 66, iV x1] (upS σ 66 5 0) (.inl []) σ3 ∧ (Xr [iV (σ3 66 20)] σ3)))) : X 0 [rV 20 66, iV x1] [] σ := by
  refine st_aload_n (pc := 0) hC dX11_prices_0 rfl (by decide) (by decide) ?_
  refine st_iconst (pc := 1) hC dX11_prices_1 (by decide) ?_
  refine st_putfI (ci := 10) (f := 5) (pc := 2) hC dX11_prices_2 fl_11_64 rfl rfl ?_
  refine st_aload_n (pc := 5) hC dX11_prices_5 rfl (by decide) (by decide) ?_
  refine st_iload_n (pc := 6) hC dX11_prices_6 rfl ?_
  refine st_i2l (pc := 7) hC dX11_prices_7 ?_
  obtain ⟨v1, hq, h⟩ := h
  refine st_invV (As := [lV x1]) (v := [iV v1]) (S := []) (pc := 8) hC dX11_prices_8 cl_11_203 rfl rfl (Nat.le_of_ble_eq_true rfl) cr_X11_isPerson hq ?_
  refine st_if_ne (tg := 20) (pc := 11) hC dX11_prices_11 (by decide) (ite_im h (fun h => ?_) (fun h => ?_))
  · refine st_aload_n (pc := 14) hC dX11_prices_14 rfl (by decide) (by decide) ?_
    refine st_iconst (pc := 15) hC dX11_prices_15 (by decide) ?_
    obtain ⟨v2, σ2, hq, h⟩ := h
    refine st_invV (As := [iV 1]) (v := [iV v2]) (S := []) (pc := 16) hC dX11_prices_16 cl_11_178 rfl rfl (Nat.le_of_ble_eq_true rfl) cr_X11_fails hq ?_
    exact st_ireturn (pc := 19) hC dX11_prices_19 trivial h
  · refine st_aload_n (pc := 20) hC dX11_prices_20 rfl (by decide) (by decide) ?_
    refine st_iload_n (pc := 21) hC dX11_prices_21 rfl ?_
    obtain ⟨σ3, hq, h⟩ := h
    refine st_invV (As := [iV x1]) (v := []) (S := []) (pc := 22) hC dX11_prices_22 cl_11_283 rfl rfl (Nat.le_of_ble_eq_true rfl) cr_X11_laysPrices hq ?_
    refine st_aload_n (pc := 25) hC dX11_prices_25 rfl (by decide) (by decide) ?_
    refine st_getf (ci := 10) (f := 20) (v := iV (σ3 66 20)) (pc := 26) hC dX11_prices_26 fl_11_280 rfl rfl ?_
    exact st_ireturn (pc := 29) hC dX11_prices_29 trivial h
theorem bX11_price_0 {C : Nat → List Vv → Sg → Rs → Sg → Prop} {X : Nat → List Vv → List Vv → Sg → Prop} {Xr : List Vv → Sg → Prop} {Xt : Nat → Sg → Prop} (hC : Clo C 11 cX11_price (some .long) X Xr Xt) {x1 x2 : Int} {σ : Sg} (h : ∃ v1 : Int, C MX11_isPerson [rV 20 66, lV x1] (upS σ 66 5 0) (.inl [iV v1]) (upS σ 66 5 0) ∧ (if v1 = 0 then (∃ v2 : Int, ∃ σ2 : Sg, C MX11_fails [rV 20 66, iV 1] (upS σ 66 5 0) (.inl [iV v2]) σ2 ∧ (Xr [lV v2] σ2)) else (∃ σ3 : Sg, C MX11_laysPrices [rV 20 66, iV x1] (upS σ 66 5 0) (.inl []) σ3 ∧ (∃ v4 : Int, C MX11_within [lV x2, lV 0, lV (w32 ((σ3 66 20) - 1))] σ3 (.inl [iV v4]) σ3 ∧ (if v4 = 0 then (Xr [lV (-1)] σ3) else ((0 ≤ x2 ∧ x2 < 512) ∧ (Xr [lV (σ3 74 (x2).toNat)] σ3))))))) : X 0 [rV 20 66, iV x1, iV x2] [] σ := by
  refine st_aload_n (pc := 0) hC dX11_price_0 rfl (by decide) (by decide) ?_
  refine st_iconst (pc := 1) hC dX11_price_1 (by decide) ?_
  refine st_putfI (ci := 10) (f := 5) (pc := 2) hC dX11_price_2 fl_11_64 rfl rfl ?_
  refine st_aload_n (pc := 5) hC dX11_price_5 rfl (by decide) (by decide) ?_
  refine st_iload_n (pc := 6) hC dX11_price_6 rfl ?_
  refine st_i2l (pc := 7) hC dX11_price_7 ?_
  obtain ⟨v1, hq, h⟩ := h
  refine st_invV (As := [lV x1]) (v := [iV v1]) (S := []) (pc := 8) hC dX11_price_8 cl_11_203 rfl rfl (Nat.le_of_ble_eq_true rfl) cr_X11_isPerson hq ?_
  refine st_if_ne (tg := 21) (pc := 11) hC dX11_price_11 (by decide) (ite_im h (fun h => ?_) (fun h => ?_))
  · refine st_aload_n (pc := 14) hC dX11_price_14 rfl (by decide) (by decide) ?_
    refine st_iconst (pc := 15) hC dX11_price_15 (by decide) ?_
    obtain ⟨v2, σ2, hq, h⟩ := h
    refine st_invV (As := [iV 1]) (v := [iV v2]) (S := []) (pc := 16) hC dX11_price_16 cl_11_178 rfl rfl (Nat.le_of_ble_eq_true rfl) cr_X11_fails hq ?_
    refine st_i2l (pc := 19) hC dX11_price_19 ?_
    exact st_lreturn (pc := 20) hC dX11_price_20 h
  · refine st_aload_n (pc := 21) hC dX11_price_21 rfl (by decide) (by decide) ?_
    refine st_iload_n (pc := 22) hC dX11_price_22 rfl ?_
    obtain ⟨σ3, hq, h⟩ := h
    refine st_invV (As := [iV x1]) (v := []) (S := []) (pc := 23) hC dX11_price_23 cl_11_283 rfl rfl (Nat.le_of_ble_eq_true rfl) cr_X11_laysPrices hq ?_
    refine st_iload_n (pc := 26) hC dX11_price_26 rfl ?_
    refine st_i2l (pc := 27) hC dX11_price_27 ?_
    refine st_lconst0 (pc := 28) hC dX11_price_28 ?_
    refine st_aload_n (pc := 29) hC dX11_price_29 rfl (by decide) (by decide) ?_
    refine st_getf (ci := 10) (f := 20) (v := iV (σ3 66 20)) (pc := 30) hC dX11_price_30 fl_11_280 rfl rfl ?_
    refine st_iconst (pc := 33) hC dX11_price_33 (by decide) ?_
    refine st_isub (pc := 34) hC dX11_price_34 ?_
    refine st_i2l (pc := 35) hC dX11_price_35 ?_
    obtain ⟨v4, hq, h⟩ := h
    refine st_invS (As := [lV x2, lV 0, lV (w32 ((σ3 66 20) - 1))]) (v := [iV v4]) (S := []) (pc := 36) hC dX11_price_36 cl_11_133 rfl rfl (Nat.le_of_ble_eq_true rfl) hq ?_
    refine st_if_eq (tg := 51) (pc := 39) hC dX11_price_39 (by decide) (ite_im h (fun h => ?_) (fun h => ?_))
    · refine st_ldc2 (pc := 51) hC dX11_price_51 rfl ?_
      exact st_lreturn (pc := 54) hC dX11_price_54 h
    · refine st_aload_n (pc := 42) hC dX11_price_42 rfl (by decide) (by decide) ?_
      refine st_getf (ci := 10) (f := 19) (v := rV 2000512 74) (pc := 43) hC dX11_price_43 fl_11_36 rfl rfl ?_
      refine st_iload_n (pc := 46) hC dX11_price_46 rfl ?_
      obtain ⟨hb, h⟩ := h
      refine st_lald (n := 512) (pc := 47) hC dX11_price_47 (by decide) hb ?_
      refine st_goto (tg := 54) (pc := 48) hC dX11_price_48 (by decide) ?_
      exact st_lreturn (pc := 54) hC dX11_price_54 h
theorem bX11_gap_0 {C : Nat → List Vv → Sg → Rs → Sg → Prop} {X : Nat → List Vv → List Vv → Sg → Prop} {Xr : List Vv → Sg → Prop} {Xt : Nat → Sg → Prop} (hC : Clo C 11 cX11_gap (some .long) X Xr Xt) {x1 : Int} {σ : Sg} (h : ∃ v1 : Int, C MX11_isPerson [rV 20 66, lV x1] (upS σ 66 5 0) (.inl [iV v1]) (upS σ 66 5 0) ∧ (if v1 = 0 then (∃ v2 : Int, ∃ σ2 : Sg, C MX11_fails [rV 20 66, iV 1] (upS σ 66 5 0) (.inl [iV v2]) σ2 ∧ (Xr [lV v2] σ2)) else (∃ σ3 : Sg, C MX11_laysPrices [rV 20 66, iV x1] (upS σ 66 5 0) (.inl []) σ3 ∧ (X 31 [rV 20 66, iV x1, lV 0, uV, iV 1] [] σ3)))) : X 0 [rV 20 66, iV x1, uV, uV, uV] [] σ := by
  refine st_aload_n (pc := 0) hC dX11_gap_0 rfl (by decide) (by decide) ?_
  refine st_iconst (pc := 1) hC dX11_gap_1 (by decide) ?_
  refine st_putfI (ci := 10) (f := 5) (pc := 2) hC dX11_gap_2 fl_11_64 rfl rfl ?_
  refine st_aload_n (pc := 5) hC dX11_gap_5 rfl (by decide) (by decide) ?_
  refine st_iload_n (pc := 6) hC dX11_gap_6 rfl ?_
  refine st_i2l (pc := 7) hC dX11_gap_7 ?_
  obtain ⟨v1, hq, h⟩ := h
  refine st_invV (As := [lV x1]) (v := [iV v1]) (S := []) (pc := 8) hC dX11_gap_8 cl_11_203 rfl rfl (Nat.le_of_ble_eq_true rfl) cr_X11_isPerson hq ?_
  refine st_if_ne (tg := 21) (pc := 11) hC dX11_gap_11 (by decide) (ite_im h (fun h => ?_) (fun h => ?_))
  · refine st_aload_n (pc := 14) hC dX11_gap_14 rfl (by decide) (by decide) ?_
    refine st_iconst (pc := 15) hC dX11_gap_15 (by decide) ?_
    obtain ⟨v2, σ2, hq, h⟩ := h
    refine st_invV (As := [iV 1]) (v := [iV v2]) (S := []) (pc := 16) hC dX11_gap_16 cl_11_178 rfl rfl (Nat.le_of_ble_eq_true rfl) cr_X11_fails hq ?_
    refine st_i2l (pc := 19) hC dX11_gap_19 ?_
    exact st_lreturn (pc := 20) hC dX11_gap_20 h
  · refine st_aload_n (pc := 21) hC dX11_gap_21 rfl (by decide) (by decide) ?_
    refine st_iload_n (pc := 22) hC dX11_gap_22 rfl ?_
    obtain ⟨σ3, hq, h⟩ := h
    refine st_invV (As := [iV x1]) (v := []) (S := []) (pc := 23) hC dX11_gap_23 cl_11_283 rfl rfl (Nat.le_of_ble_eq_true rfl) cr_X11_laysPrices hq ?_
    refine st_lconst0 (pc := 26) hC dX11_gap_26 ?_
    refine st_lstore_n (L2 := [rV 20 66, iV x1, lV 0, uV, uV]) (pc := 27) hC dX11_gap_27 (Nat.le_of_ble_eq_true rfl) rfl ?_
    refine st_iconst (pc := 28) hC dX11_gap_28 (by decide) ?_
    refine st_istore (L2 := [rV 20 66, iV x1, lV 0, uV, iV 1]) (pc := 29) hC dX11_gap_29 (Nat.le_of_ble_eq_true rfl) rfl ?_
    exact h
theorem bX11_gap_31 {C : Nat → List Vv → Sg → Rs → Sg → Prop} {X : Nat → List Vv → List Vv → Sg → Prop} {Xr : List Vv → Sg → Prop} {Xt : Nat → Sg → Prop} (hC : Clo C 11 cX11_gap (some .long) X Xr Xt) {x1 x2 x4 : Int} {σ : Sg} (h : if x4 < (σ 66 20) then ((0 ≤ x4 ∧ x4 < 512) ∧ ((0 ≤ (w32 (x4 - 1)) ∧ (w32 (x4 - 1)) < 512) ∧ (X 31 [rV 20 66, iV x1, lV (max x2 (w64 ((σ 74 (x4).toNat) - (σ 74 ((w32 (x4 - 1))).toNat)))), uV, iV (w32 (x4 + 1))] [] σ))) else (Xr [lV x2] σ)) : X 31 [rV 20 66, iV x1, lV x2, uV, iV x4] [] σ := by
  refine st_iload (pc := 31) hC dX11_gap_31 rfl ?_
  refine st_aload_n (pc := 33) hC dX11_gap_33 rfl (by decide) (by decide) ?_
  refine st_getf (ci := 10) (f := 20) (v := iV (σ 66 20)) (pc := 34) hC dX11_gap_34 fl_11_280 rfl rfl ?_
  refine st_icmp_ge (tg := 68) (pc := 37) hC dX11_gap_37 (by decide) (ite_im h (fun h => ?_) (fun h => ?_))
  · refine st_lload_n (pc := 40) hC dX11_gap_40 rfl ?_
    refine st_aload_n (pc := 41) hC dX11_gap_41 rfl (by decide) (by decide) ?_
    refine st_getf (ci := 10) (f := 19) (v := rV 2000512 74) (pc := 42) hC dX11_gap_42 fl_11_36 rfl rfl ?_
    refine st_iload (pc := 45) hC dX11_gap_45 rfl ?_
    obtain ⟨hb, h⟩ := h
    refine st_lald (n := 512) (pc := 47) hC dX11_gap_47 (by decide) hb ?_
    refine st_aload_n (pc := 48) hC dX11_gap_48 rfl (by decide) (by decide) ?_
    refine st_getf (ci := 10) (f := 19) (v := rV 2000512 74) (pc := 49) hC dX11_gap_49 fl_11_36 rfl rfl ?_
    refine st_iload (pc := 52) hC dX11_gap_52 rfl ?_
    refine st_iconst (pc := 54) hC dX11_gap_54 (by decide) ?_
    refine st_isub (pc := 55) hC dX11_gap_55 ?_
    obtain ⟨hb, h⟩ := h
    refine st_lald (n := 512) (pc := 56) hC dX11_gap_56 (by decide) hb ?_
    refine st_lsub (pc := 57) hC dX11_gap_57 ?_
    refine st_lmax (pc := 58) hC dX11_gap_58 rfl (Nat.le_of_ble_eq_true rfl) ?_
    refine st_lstore_n (L2 := [rV 20 66, iV x1, lV (max x2 (w64 ((σ 74 (x4).toNat) - (σ 74 ((w32 (x4 - 1))).toNat)))), uV, iV x4]) (pc := 61) hC dX11_gap_61 (Nat.le_of_ble_eq_true rfl) rfl ?_
    refine st_iinc (L2 := [rV 20 66, iV x1, lV (max x2 (w64 ((σ 74 (x4).toNat) - (σ 74 ((w32 (x4 - 1))).toNat)))), uV, iV (w32 (x4 + 1))]) (pc := 62) hC dX11_gap_62 rfl (Nat.le_of_ble_eq_true rfl) rfl ?_
    refine st_goto (tg := 31) (pc := 65) hC dX11_gap_65 (by decide) ?_
    exact h
  · refine st_lload_n (pc := 68) hC dX11_gap_68 rfl ?_
    exact st_lreturn (pc := 69) hC dX11_gap_69 h
theorem bX11_nearest_0 {C : Nat → List Vv → Sg → Rs → Sg → Prop} {X : Nat → List Vv → List Vv → Sg → Prop} {Xr : List Vv → Sg → Prop} {Xt : Nat → Sg → Prop} (hC : Clo C 11 cX11_nearest (some .long) X Xr Xt) {x1 x2 : Int} {σ : Sg} (h : ∃ v1 : Int, C MX11_isPerson [rV 20 66, lV x1] (upS σ 66 5 0) (.inl [iV v1]) (upS σ 66 5 0) ∧ (if v1 = 0 then (∃ v2 : Int, ∃ σ2 : Sg, C MX11_fails [rV 20 66, iV 1] (upS σ 66 5 0) (.inl [iV v2]) σ2 ∧ (Xr [lV v2] σ2)) else (∃ σ3 : Sg, C MX11_laysPrices [rV 20 66, iV x1] (upS σ 66 5 0) (.inl []) σ3 ∧ (X 29 [rV 20 66, iV x1, lV x2, uV, iV 0] [] σ3)))) : X 0 [rV 20 66, iV x1, lV x2, uV, uV] [] σ := by
  refine st_aload_n (pc := 0) hC dX11_nearest_0 rfl (by decide) (by decide) ?_
  refine st_iconst (pc := 1) hC dX11_nearest_1 (by decide) ?_
  refine st_putfI (ci := 10) (f := 5) (pc := 2) hC dX11_nearest_2 fl_11_64 rfl rfl ?_
  refine st_aload_n (pc := 5) hC dX11_nearest_5 rfl (by decide) (by decide) ?_
  refine st_iload_n (pc := 6) hC dX11_nearest_6 rfl ?_
  refine st_i2l (pc := 7) hC dX11_nearest_7 ?_
  obtain ⟨v1, hq, h⟩ := h
  refine st_invV (As := [lV x1]) (v := [iV v1]) (S := []) (pc := 8) hC dX11_nearest_8 cl_11_203 rfl rfl (Nat.le_of_ble_eq_true rfl) cr_X11_isPerson hq ?_
  refine st_if_ne (tg := 21) (pc := 11) hC dX11_nearest_11 (by decide) (ite_im h (fun h => ?_) (fun h => ?_))
  · refine st_aload_n (pc := 14) hC dX11_nearest_14 rfl (by decide) (by decide) ?_
    refine st_iconst (pc := 15) hC dX11_nearest_15 (by decide) ?_
    obtain ⟨v2, σ2, hq, h⟩ := h
    refine st_invV (As := [iV 1]) (v := [iV v2]) (S := []) (pc := 16) hC dX11_nearest_16 cl_11_178 rfl rfl (Nat.le_of_ble_eq_true rfl) cr_X11_fails hq ?_
    refine st_i2l (pc := 19) hC dX11_nearest_19 ?_
    exact st_lreturn (pc := 20) hC dX11_nearest_20 h
  · refine st_aload_n (pc := 21) hC dX11_nearest_21 rfl (by decide) (by decide) ?_
    refine st_iload_n (pc := 22) hC dX11_nearest_22 rfl ?_
    obtain ⟨σ3, hq, h⟩ := h
    refine st_invV (As := [iV x1]) (v := []) (S := []) (pc := 23) hC dX11_nearest_23 cl_11_283 rfl rfl (Nat.le_of_ble_eq_true rfl) cr_X11_laysPrices hq ?_
    refine st_iconst (pc := 26) hC dX11_nearest_26 (by decide) ?_
    refine st_istore (L2 := [rV 20 66, iV x1, lV x2, uV, iV 0]) (pc := 27) hC dX11_nearest_27 (Nat.le_of_ble_eq_true rfl) rfl ?_
    exact h
theorem bX11_nearest_29 {C : Nat → List Vv → Sg → Rs → Sg → Prop} {X : Nat → List Vv → List Vv → Sg → Prop} {Xr : List Vv → Sg → Prop} {Xt : Nat → Sg → Prop} (hC : Clo C 11 cX11_nearest (some .long) X Xr Xt) {x1 x2 x4 : Int} {σ : Sg} (h : if x4 < (σ 66 20) then ((0 ≤ x4 ∧ x4 < 512) ∧ (if (σ 74 (x4).toNat) < x2 then (X 29 [rV 20 66, iV x1, lV x2, uV, iV (w32 (x4 + 1))] [] σ) else (if x4 = 0 then (Xr [lV (σ 74 0)] σ) else (if x4 = (σ 66 20) then ((0 ≤ (w32 (x4 - 1)) ∧ (w32 (x4 - 1)) < 512) ∧ (Xr [lV (σ 74 ((w32 (x4 - 1))).toNat)] σ)) else ((0 ≤ x4 ∧ x4 < 512) ∧ ((0 ≤ (w32 (x4 - 1)) ∧ (w32 (x4 - 1)) < 512) ∧ (if (w64 ((σ 74 (x4).toNat) - x2)) < (w64 (x2 - (σ 74 ((w32 (x4 - 1))).toNat))) then ((0 ≤ x4 ∧ x4 < 512) ∧ (Xr [lV (σ 74 (x4).toNat)] σ)) else ((0 ≤ (w32 (x4 - 1)) ∧ (w32 (x4 - 1)) < 512) ∧ (Xr [lV (σ 74 ((w32 (x4 - 1))).toNat)] σ))))))))) else (if x4 = 0 then (Xr [lV (σ 74 0)] σ) else (if x4 = (σ 66 20) then ((0 ≤ (w32 (x4 - 1)) ∧ (w32 (x4 - 1)) < 512) ∧ (Xr [lV (σ 74 ((w32 (x4 - 1))).toNat)] σ)) else ((0 ≤ x4 ∧ x4 < 512) ∧ ((0 ≤ (w32 (x4 - 1)) ∧ (w32 (x4 - 1)) < 512) ∧ (if (w64 ((σ 74 (x4).toNat) - x2)) < (w64 (x2 - (σ 74 ((w32 (x4 - 1))).toNat))) then ((0 ≤ x4 ∧ x4 < 512) ∧ (Xr [lV (σ 74 (x4).toNat)] σ)) else ((0 ≤ (w32 (x4 - 1)) ∧ (w32 (x4 - 1)) < 512) ∧ (Xr [lV (σ 74 ((w32 (x4 - 1))).toNat)] σ)))))))) : X 29 [rV 20 66, iV x1, lV x2, uV, iV x4] [] σ := by
  refine st_iload (pc := 29) hC dX11_nearest_29 rfl ?_
  refine st_aload_n (pc := 31) hC dX11_nearest_31 rfl (by decide) (by decide) ?_
  refine st_getf (ci := 10) (f := 20) (v := iV (σ 66 20)) (pc := 32) hC dX11_nearest_32 fl_11_280 rfl rfl ?_
  refine st_icmp_ge (tg := 56) (pc := 35) hC dX11_nearest_35 (by decide) (ite_im h (fun h => ?_) (fun h => ?_))
  · refine st_aload_n (pc := 38) hC dX11_nearest_38 rfl (by decide) (by decide) ?_
    refine st_getf (ci := 10) (f := 19) (v := rV 2000512 74) (pc := 39) hC dX11_nearest_39 fl_11_36 rfl rfl ?_
    refine st_iload (pc := 42) hC dX11_nearest_42 rfl ?_
    obtain ⟨hb, h⟩ := h
    refine st_lald (n := 512) (pc := 44) hC dX11_nearest_44 (by decide) hb ?_
    refine st_lload_n (pc := 45) hC dX11_nearest_45 rfl ?_
    refine st_lcmp_ge (tg := 56) (pc := 46) hC dX11_nearest_46 dX11_nearest_47 (by decide) (ite_im h (fun h => ?_) (fun h => ?_))
    · refine st_iinc (L2 := [rV 20 66, iV x1, lV x2, uV, iV (w32 (x4 + 1))]) (pc := 50) hC dX11_nearest_50 rfl (Nat.le_of_ble_eq_true rfl) rfl ?_
      refine st_goto (tg := 29) (pc := 53) hC dX11_nearest_53 (by decide) ?_
      exact h
    · refine st_iload (pc := 56) hC dX11_nearest_56 rfl ?_
      refine st_if_ne (tg := 68) (pc := 58) hC dX11_nearest_58 (by decide) (ite_im h (fun h => ?_) (fun h => ?_))
      · refine st_aload_n (pc := 61) hC dX11_nearest_61 rfl (by decide) (by decide) ?_
        refine st_getf (ci := 10) (f := 19) (v := rV 2000512 74) (pc := 62) hC dX11_nearest_62 fl_11_36 rfl rfl ?_
        refine st_iconst (pc := 65) hC dX11_nearest_65 (by decide) ?_
        refine st_lald (n := 512) (pc := 66) hC dX11_nearest_66 (by decide) ⟨by decide, by decide⟩ ?_
        exact st_lreturn (pc := 67) hC dX11_nearest_67 h
      · refine st_iload (pc := 68) hC dX11_nearest_68 rfl ?_
        refine st_aload_n (pc := 70) hC dX11_nearest_70 rfl (by decide) (by decide) ?_
        refine st_getf (ci := 10) (f := 20) (v := iV (σ 66 20)) (pc := 71) hC dX11_nearest_71 fl_11_280 rfl rfl ?_
        refine st_icmp_ne (tg := 87) (pc := 74) hC dX11_nearest_74 (by decide) (ite_im h (fun h => ?_) (fun h => ?_))
        · refine st_aload_n (pc := 77) hC dX11_nearest_77 rfl (by decide) (by decide) ?_
          refine st_getf (ci := 10) (f := 19) (v := rV 2000512 74) (pc := 78) hC dX11_nearest_78 fl_11_36 rfl rfl ?_
          refine st_iload (pc := 81) hC dX11_nearest_81 rfl ?_
          refine st_iconst (pc := 83) hC dX11_nearest_83 (by decide) ?_
          refine st_isub (pc := 84) hC dX11_nearest_84 ?_
          obtain ⟨hb, h⟩ := h
          refine st_lald (n := 512) (pc := 85) hC dX11_nearest_85 (by decide) hb ?_
          exact st_lreturn (pc := 86) hC dX11_nearest_86 h
        · refine st_aload_n (pc := 87) hC dX11_nearest_87 rfl (by decide) (by decide) ?_
          refine st_getf (ci := 10) (f := 19) (v := rV 2000512 74) (pc := 88) hC dX11_nearest_88 fl_11_36 rfl rfl ?_
          refine st_iload (pc := 91) hC dX11_nearest_91 rfl ?_
          obtain ⟨hb, h⟩ := h
          refine st_lald (n := 512) (pc := 93) hC dX11_nearest_93 (by decide) hb ?_
          refine st_lload_n (pc := 94) hC dX11_nearest_94 rfl ?_
          refine st_lsub (pc := 95) hC dX11_nearest_95 ?_
          refine st_lload_n (pc := 96) hC dX11_nearest_96 rfl ?_
          refine st_aload_n (pc := 97) hC dX11_nearest_97 rfl (by decide) (by decide) ?_
          refine st_getf (ci := 10) (f := 19) (v := rV 2000512 74) (pc := 98) hC dX11_nearest_98 fl_11_36 rfl rfl ?_
          refine st_iload (pc := 101) hC dX11_nearest_101 rfl ?_
          refine st_iconst (pc := 103) hC dX11_nearest_103 (by decide) ?_
          refine st_isub (pc := 104) hC dX11_nearest_104 ?_
          obtain ⟨hb, h⟩ := h
          refine st_lald (n := 512) (pc := 105) hC dX11_nearest_105 (by decide) hb ?_
          refine st_lsub (pc := 106) hC dX11_nearest_106 ?_
          refine st_lcmp_ge (tg := 121) (pc := 107) hC dX11_nearest_107 dX11_nearest_108 (by decide) (ite_im h (fun h => ?_) (fun h => ?_))
          · refine st_aload_n (pc := 111) hC dX11_nearest_111 rfl (by decide) (by decide) ?_
            refine st_getf (ci := 10) (f := 19) (v := rV 2000512 74) (pc := 112) hC dX11_nearest_112 fl_11_36 rfl rfl ?_
            refine st_iload (pc := 115) hC dX11_nearest_115 rfl ?_
            obtain ⟨hb, h⟩ := h
            refine st_lald (n := 512) (pc := 117) hC dX11_nearest_117 (by decide) hb ?_
            refine st_goto (tg := 130) (pc := 118) hC dX11_nearest_118 (by decide) ?_
            exact st_lreturn (pc := 130) hC dX11_nearest_130 h
          · refine st_aload_n (pc := 121) hC dX11_nearest_121 rfl (by decide) (by decide) ?_
            refine st_getf (ci := 10) (f := 19) (v := rV 2000512 74) (pc := 122) hC dX11_nearest_122 fl_11_36 rfl rfl ?_
            refine st_iload (pc := 125) hC dX11_nearest_125 rfl ?_
            refine st_iconst (pc := 127) hC dX11_nearest_127 (by decide) ?_
            refine st_isub (pc := 128) hC dX11_nearest_128 ?_
            obtain ⟨hb, h⟩ := h
            refine st_lald (n := 512) (pc := 129) hC dX11_nearest_129 (by decide) hb ?_
            exact st_lreturn (pc := 130) hC dX11_nearest_130 h
  · refine st_iload (pc := 56) hC dX11_nearest_56 rfl ?_
    refine st_if_ne (tg := 68) (pc := 58) hC dX11_nearest_58 (by decide) (ite_im h (fun h => ?_) (fun h => ?_))
    · refine st_aload_n (pc := 61) hC dX11_nearest_61 rfl (by decide) (by decide) ?_
      refine st_getf (ci := 10) (f := 19) (v := rV 2000512 74) (pc := 62) hC dX11_nearest_62 fl_11_36 rfl rfl ?_
      refine st_iconst (pc := 65) hC dX11_nearest_65 (by decide) ?_
      refine st_lald (n := 512) (pc := 66) hC dX11_nearest_66 (by decide) ⟨by decide, by decide⟩ ?_
      exact st_lreturn (pc := 67) hC dX11_nearest_67 h
    · refine st_iload (pc := 68) hC dX11_nearest_68 rfl ?_
      refine st_aload_n (pc := 70) hC dX11_nearest_70 rfl (by decide) (by decide) ?_
      refine st_getf (ci := 10) (f := 20) (v := iV (σ 66 20)) (pc := 71) hC dX11_nearest_71 fl_11_280 rfl rfl ?_
      refine st_icmp_ne (tg := 87) (pc := 74) hC dX11_nearest_74 (by decide) (ite_im h (fun h => ?_) (fun h => ?_))
      · refine st_aload_n (pc := 77) hC dX11_nearest_77 rfl (by decide) (by decide) ?_
        refine st_getf (ci := 10) (f := 19) (v := rV 2000512 74) (pc := 78) hC dX11_nearest_78 fl_11_36 rfl rfl ?_
        refine st_iload (pc := 81) hC dX11_nearest_81 rfl ?_
        refine st_iconst (pc := 83) hC dX11_nearest_83 (by decide) ?_
        refine st_isub (pc := 84) hC dX11_nearest_84 ?_
        obtain ⟨hb, h⟩ := h
        refine st_lald (n := 512) (pc := 85) hC dX11_nearest_85 (by decide) hb ?_
        exact st_lreturn (pc := 86) hC dX11_nearest_86 h
      · refine st_aload_n (pc := 87) hC dX11_nearest_87 rfl (by decide) (by decide) ?_
        refine st_getf (ci := 10) (f := 19) (v := rV 2000512 74) (pc := 88) hC dX11_nearest_88 fl_11_36 rfl rfl ?_
        refine st_iload (pc := 91) hC dX11_nearest_91 rfl ?_
        obtain ⟨hb, h⟩ := h
        refine st_lald (n := 512) (pc := 93) hC dX11_nearest_93 (by decide) hb ?_
        refine st_lload_n (pc := 94) hC dX11_nearest_94 rfl ?_
        refine st_lsub (pc := 95) hC dX11_nearest_95 ?_
        refine st_lload_n (pc := 96) hC dX11_nearest_96 rfl ?_
        refine st_aload_n (pc := 97) hC dX11_nearest_97 rfl (by decide) (by decide) ?_
        refine st_getf (ci := 10) (f := 19) (v := rV 2000512 74) (pc := 98) hC dX11_nearest_98 fl_11_36 rfl rfl ?_
        refine st_iload (pc := 101) hC dX11_nearest_101 rfl ?_
        refine st_iconst (pc := 103) hC dX11_nearest_103 (by decide) ?_
        refine st_isub (pc := 104) hC dX11_nearest_104 ?_
        obtain ⟨hb, h⟩ := h
        refine st_lald (n := 512) (pc := 105) hC dX11_nearest_105 (by decide) hb ?_
        refine st_lsub (pc := 106) hC dX11_nearest_106 ?_
        refine st_lcmp_ge (tg := 121) (pc := 107) hC dX11_nearest_107 dX11_nearest_108 (by decide) (ite_im h (fun h => ?_) (fun h => ?_))
        · refine st_aload_n (pc := 111) hC dX11_nearest_111 rfl (by decide) (by decide) ?_
          refine st_getf (ci := 10) (f := 19) (v := rV 2000512 74) (pc := 112) hC dX11_nearest_112 fl_11_36 rfl rfl ?_
          refine st_iload (pc := 115) hC dX11_nearest_115 rfl ?_
          obtain ⟨hb, h⟩ := h
          refine st_lald (n := 512) (pc := 117) hC dX11_nearest_117 (by decide) hb ?_
          refine st_goto (tg := 130) (pc := 118) hC dX11_nearest_118 (by decide) ?_
          exact st_lreturn (pc := 130) hC dX11_nearest_130 h
        · refine st_aload_n (pc := 121) hC dX11_nearest_121 rfl (by decide) (by decide) ?_
          refine st_getf (ci := 10) (f := 19) (v := rV 2000512 74) (pc := 122) hC dX11_nearest_122 fl_11_36 rfl rfl ?_
          refine st_iload (pc := 125) hC dX11_nearest_125 rfl ?_
          refine st_iconst (pc := 127) hC dX11_nearest_127 (by decide) ?_
          refine st_isub (pc := 128) hC dX11_nearest_128 ?_
          obtain ⟨hb, h⟩ := h
          refine st_lald (n := 512) (pc := 129) hC dX11_nearest_129 (by decide) hb ?_
          exact st_lreturn (pc := 130) hC dX11_nearest_130 h
theorem bX11_half_0 {C : Nat → List Vv → Sg → Rs → Sg → Prop} {X : Nat → List Vv → List Vv → Sg → Prop} {Xr : List Vv → Sg → Prop} {Xt : Nat → Sg → Prop} (hC : Clo C 11 cX11_half (some .long) X Xr Xt) {x1 : Int} {σ : Sg} (h : ∃ v1 : Int, C MX11_isPerson [rV 20 66, lV x1] (upS σ 66 5 0) (.inl [iV v1]) (upS σ 66 5 0) ∧ (if v1 = 0 then (∃ v2 : Int, ∃ σ2 : Sg, C MX11_fails [rV 20 66, iV 1] (upS σ 66 5 0) (.inl [iV v2]) σ2 ∧ (Xr [lV v2] σ2)) else (∃ σ3 : Sg, C MX11_laysPrices [rV 20 66, iV x1] (upS σ 66 5 0) (.inl []) σ3 ∧ (∃ v4 : Int, C MX11_worthOf [rV 20 66, iV x1] σ3 (.inl [lV v4]) σ3 ∧ (X 38 [rV 20 66, iV x1, lV v4, uV, lV 1, uV, iV 0] [] σ3))))) : X 0 [rV 20 66, iV x1, uV, uV, uV, uV, uV] [] σ := by
  refine st_aload_n (pc := 0) hC dX11_half_0 rfl (by decide) (by decide) ?_
  refine st_iconst (pc := 1) hC dX11_half_1 (by decide) ?_
  refine st_putfI (ci := 10) (f := 5) (pc := 2) hC dX11_half_2 fl_11_64 rfl rfl ?_
  refine st_aload_n (pc := 5) hC dX11_half_5 rfl (by decide) (by decide) ?_
  refine st_iload_n (pc := 6) hC dX11_half_6 rfl ?_
  refine st_i2l (pc := 7) hC dX11_half_7 ?_
  obtain ⟨v1, hq, h⟩ := h
  refine st_invV (As := [lV x1]) (v := [iV v1]) (S := []) (pc := 8) hC dX11_half_8 cl_11_203 rfl rfl (Nat.le_of_ble_eq_true rfl) cr_X11_isPerson hq ?_
  refine st_if_ne (tg := 21) (pc := 11) hC dX11_half_11 (by decide) (ite_im h (fun h => ?_) (fun h => ?_))
  · refine st_aload_n (pc := 14) hC dX11_half_14 rfl (by decide) (by decide) ?_
    refine st_iconst (pc := 15) hC dX11_half_15 (by decide) ?_
    obtain ⟨v2, σ2, hq, h⟩ := h
    refine st_invV (As := [iV 1]) (v := [iV v2]) (S := []) (pc := 16) hC dX11_half_16 cl_11_178 rfl rfl (Nat.le_of_ble_eq_true rfl) cr_X11_fails hq ?_
    refine st_i2l (pc := 19) hC dX11_half_19 ?_
    exact st_lreturn (pc := 20) hC dX11_half_20 h
  · refine st_aload_n (pc := 21) hC dX11_half_21 rfl (by decide) (by decide) ?_
    refine st_iload_n (pc := 22) hC dX11_half_22 rfl ?_
    obtain ⟨σ3, hq, h⟩ := h
    refine st_invV (As := [iV x1]) (v := []) (S := []) (pc := 23) hC dX11_half_23 cl_11_283 rfl rfl (Nat.le_of_ble_eq_true rfl) cr_X11_laysPrices hq ?_
    refine st_aload_n (pc := 26) hC dX11_half_26 rfl (by decide) (by decide) ?_
    refine st_iload_n (pc := 27) hC dX11_half_27 rfl ?_
    obtain ⟨v4, hq, h⟩ := h
    refine st_invV (As := [iV x1]) (v := [lV v4]) (S := []) (pc := 28) hC dX11_half_28 cl_11_220 rfl rfl (Nat.le_of_ble_eq_true rfl) cr_X11_worthOf hq ?_
    refine st_lstore_n (L2 := [rV 20 66, iV x1, lV v4, uV, uV, uV, uV]) (pc := 31) hC dX11_half_31 (Nat.le_of_ble_eq_true rfl) rfl ?_
    refine st_lconst1 (pc := 32) hC dX11_half_32 ?_
    refine st_lstore (L2 := [rV 20 66, iV x1, lV v4, uV, lV 1, uV, uV]) (pc := 33) hC dX11_half_33 (Nat.le_of_ble_eq_true rfl) rfl ?_
    refine st_iconst (pc := 35) hC dX11_half_35 (by decide) ?_
    refine st_istore (L2 := [rV 20 66, iV x1, lV v4, uV, lV 1, uV, iV 0]) (pc := 36) hC dX11_half_36 (Nat.le_of_ble_eq_true rfl) rfl ?_
    exact h
theorem bX11_half_38 {C : Nat → List Vv → Sg → Rs → Sg → Prop} {X : Nat → List Vv → List Vv → Sg → Prop} {Xr : List Vv → Sg → Prop} {Xt : Nat → Sg → Prop} (hC : Clo C 11 cX11_half (some .long) X Xr Xt) {x1 x2 x4 x6 : Int} {σ : Sg} (h : if x6 < (σ 66 20) then ((0 ≤ x6 ∧ x6 < 512) ∧ ((0 ≤ x6 ∧ x6 < 512) ∧ ((σ 74 (x6).toNat) ≠ 0 ∧ (if (w64 (x2.tdiv (σ 74 (x6).toNat))) < (σ 74 (x6).toNat) then (X 38 [rV 20 66, iV x1, lV x2, uV, lV x4, uV, iV (w32 (x6 + 1))] [] σ) else ((0 ≤ x6 ∧ x6 < 512) ∧ (X 38 [rV 20 66, iV x1, lV x2, uV, lV (σ 74 (x6).toNat), uV, iV (w32 (x6 + 1))] [] σ)))))) else (Xr [lV x4] σ)) : X 38 [rV 20 66, iV x1, lV x2, uV, lV x4, uV, iV x6] [] σ := by
  refine st_iload (pc := 38) hC dX11_half_38 rfl ?_
  refine st_aload_n (pc := 40) hC dX11_half_40 rfl (by decide) (by decide) ?_
  refine st_getf (ci := 10) (f := 20) (v := iV (σ 66 20)) (pc := 41) hC dX11_half_41 fl_11_280 rfl rfl ?_
  refine st_icmp_ge (tg := 82) (pc := 44) hC dX11_half_44 (by decide) (ite_im h (fun h => ?_) (fun h => ?_))
  · refine st_aload_n (pc := 47) hC dX11_half_47 rfl (by decide) (by decide) ?_
    refine st_getf (ci := 10) (f := 19) (v := rV 2000512 74) (pc := 48) hC dX11_half_48 fl_11_36 rfl rfl ?_
    refine st_iload (pc := 51) hC dX11_half_51 rfl ?_
    obtain ⟨hb, h⟩ := h
    refine st_lald (n := 512) (pc := 53) hC dX11_half_53 (by decide) hb ?_
    refine st_lload_n (pc := 54) hC dX11_half_54 rfl ?_
    refine st_aload_n (pc := 55) hC dX11_half_55 rfl (by decide) (by decide) ?_
    refine st_getf (ci := 10) (f := 19) (v := rV 2000512 74) (pc := 56) hC dX11_half_56 fl_11_36 rfl rfl ?_
    refine st_iload (pc := 59) hC dX11_half_59 rfl ?_
    obtain ⟨hb, h⟩ := h
    refine st_lald (n := 512) (pc := 61) hC dX11_half_61 (by decide) hb ?_
    obtain ⟨h0, h⟩ := h
    refine st_ldiv (pc := 62) hC dX11_half_62 h0 ?_
    refine st_lcmp_gt (tg := 76) (pc := 63) hC dX11_half_63 dX11_half_64 (by decide) (ite_im h (fun h => ?_) (fun h => ?_))
    · refine st_iinc (L2 := [rV 20 66, iV x1, lV x2, uV, lV x4, uV, iV (w32 (x6 + 1))]) (pc := 76) hC dX11_half_76 rfl (Nat.le_of_ble_eq_true rfl) rfl ?_
      refine st_goto (tg := 38) (pc := 79) hC dX11_half_79 (by decide) ?_
      exact h
    · refine st_aload_n (pc := 67) hC dX11_half_67 rfl (by decide) (by decide) ?_
      refine st_getf (ci := 10) (f := 19) (v := rV 2000512 74) (pc := 68) hC dX11_half_68 fl_11_36 rfl rfl ?_
      refine st_iload (pc := 71) hC dX11_half_71 rfl ?_
      obtain ⟨hb, h⟩ := h
      refine st_lald (n := 512) (pc := 73) hC dX11_half_73 (by decide) hb ?_
      refine st_lstore (L2 := [rV 20 66, iV x1, lV x2, uV, lV (σ 74 (x6).toNat), uV, iV x6]) (pc := 74) hC dX11_half_74 (Nat.le_of_ble_eq_true rfl) rfl ?_
      refine st_iinc (L2 := [rV 20 66, iV x1, lV x2, uV, lV (σ 74 (x6).toNat), uV, iV (w32 (x6 + 1))]) (pc := 76) hC dX11_half_76 rfl (Nat.le_of_ble_eq_true rfl) rfl ?_
      refine st_goto (tg := 38) (pc := 79) hC dX11_half_79 (by decide) ?_
      exact h
  · refine st_lload (pc := 82) hC dX11_half_82 rfl ?_
    exact st_lreturn (pc := 84) hC dX11_half_84 h
theorem bX11_ten_0 {C : Nat → List Vv → Sg → Rs → Sg → Prop} {X : Nat → List Vv → List Vv → Sg → Prop} {Xr : List Vv → Sg → Prop} {Xt : Nat → Sg → Prop} (hC : Clo C 11 cX11_ten (some .int) X Xr Xt) {x0 : Int} {σ : Sg} (h : X 4 [iV x0, iV 1, iV 0] [] σ) : X 0 [iV x0, uV, uV] [] σ := by
  refine st_iconst (pc := 0) hC dX11_ten_0 (by decide) ?_
  refine st_istore_n (L2 := [iV x0, iV 1, uV]) (pc := 1) hC dX11_ten_1 (Nat.le_of_ble_eq_true rfl) rfl ?_
  refine st_iconst (pc := 2) hC dX11_ten_2 (by decide) ?_
  refine st_istore_n (L2 := [iV x0, iV 1, iV 0]) (pc := 3) hC dX11_ten_3 (Nat.le_of_ble_eq_true rfl) rfl ?_
  exact h
