theorem bJ6_bitCount_0f7a4_0 {C : Nat → List Vv → Sg → Rs → Sg → Prop} {X : Nat → List Vv → List Vv → Sg → Prop} {Xr : List Vv → Sg → Prop} {Xt : Nat → Sg → Prop} (hC : Clo C 15 cJ6_bitCount_0f7a4 (some .int) X Xr Xt) {x0 : Int} {σ : Sg} (h : Xr [iV (iandI (w32 ((w32 ((iandI (w32 ((w32 ((iandI (w32 (x0 - (iandI (iushrI x0 1) 1431655765))) 858993459) + (iandI (iushrI (w32 (x0 - (iandI (iushrI x0 1) 1431655765))) 2) 858993459))) + (iushrI (w32 ((iandI (w32 (x0 - (iandI (iushrI x0 1) 1431655765))) 858993459) + (iandI (iushrI (w32 (x0 - (iandI (iushrI x0 1) 1431655765))) 2) 858993459))) 4))) 252645135) + (iushrI (iandI (w32 ((w32 ((iandI (w32 (x0 - (iandI (iushrI x0 1) 1431655765))) 858993459) + (iandI (iushrI (w32 (x0 - (iandI (iushrI x0 1) 1431655765))) 2) 858993459))) + (iushrI (w32 ((iandI (w32 (x0 - (iandI (iushrI x0 1) 1431655765))) 858993459) + (iandI (iushrI (w32 (x0 - (iandI (iushrI x0 1) 1431655765))) 2) 858993459))) 4))) 252645135) 8))) + (iushrI (w32 ((iandI (w32 ((w32 ((iandI (w32 (x0 - (iandI (iushrI x0 1) 1431655765))) 858993459) + (iandI (iushrI (w32 (x0 - (iandI (iushrI x0 1) 1431655765))) 2) 858993459))) + (iushrI (w32 ((iandI (w32 (x0 - (iandI (iushrI x0 1) 1431655765))) 858993459) + (iandI (iushrI (w32 (x0 - (iandI (iushrI x0 1) 1431655765))) 2) 858993459))) 4))) 252645135) + (iushrI (iandI (w32 ((w32 ((iandI (w32 (x0 - (iandI (iushrI x0 1) 1431655765))) 858993459) + (iandI (iushrI (w32 (x0 - (iandI (iushrI x0 1) 1431655765))) 2) 858993459))) + (iushrI (w32 ((iandI (w32 (x0 - (iandI (iushrI x0 1) 1431655765))) 858993459) + (iandI (iushrI (w32 (x0 - (iandI (iushrI x0 1) 1431655765))) 2) 858993459))) 4))) 252645135) 8))) 16))) 63)] σ) : X 0 [iV x0] [] σ := by
  refine st_iload_n (pc := 0) hC dJ6_bitCount_0f7a4_0 rfl ?_
  refine st_iload_n (pc := 1) hC dJ6_bitCount_0f7a4_1 rfl ?_
  refine st_iconst (pc := 2) hC dJ6_bitCount_0f7a4_2 (by decide) ?_
  refine st_iushr (pc := 3) hC dJ6_bitCount_0f7a4_3 ?_
  refine st_ldcw (pc := 4) hC dJ6_bitCount_0f7a4_4 rfl ?_
  refine st_iand (pc := 7) hC dJ6_bitCount_0f7a4_7 ?_
  refine st_isub (pc := 8) hC dJ6_bitCount_0f7a4_8 ?_
  refine st_istore_n (L2 := [iV (w32 (x0 - (iandI (iushrI x0 1) 1431655765)))]) (pc := 9) hC dJ6_bitCount_0f7a4_9 (Nat.le_of_ble_eq_true rfl) rfl ?_
  refine st_iload_n (pc := 10) hC dJ6_bitCount_0f7a4_10 rfl ?_
  refine st_ldcw (pc := 11) hC dJ6_bitCount_0f7a4_11 rfl ?_
  refine st_iand (pc := 14) hC dJ6_bitCount_0f7a4_14 ?_
  refine st_iload_n (pc := 15) hC dJ6_bitCount_0f7a4_15 rfl ?_
  refine st_iconst (pc := 16) hC dJ6_bitCount_0f7a4_16 (by decide) ?_
  refine st_iushr (pc := 17) hC dJ6_bitCount_0f7a4_17 ?_
  refine st_ldcw (pc := 18) hC dJ6_bitCount_0f7a4_18 rfl ?_
  refine st_iand (pc := 21) hC dJ6_bitCount_0f7a4_21 ?_
  refine st_iadd (pc := 22) hC dJ6_bitCount_0f7a4_22 ?_
  refine st_istore_n (L2 := [iV (w32 ((iandI (w32 (x0 - (iandI (iushrI x0 1) 1431655765))) 858993459) + (iandI (iushrI (w32 (x0 - (iandI (iushrI x0 1) 1431655765))) 2) 858993459)))]) (pc := 23) hC dJ6_bitCount_0f7a4_23 (Nat.le_of_ble_eq_true rfl) rfl ?_
  refine st_iload_n (pc := 24) hC dJ6_bitCount_0f7a4_24 rfl ?_
  refine st_iload_n (pc := 25) hC dJ6_bitCount_0f7a4_25 rfl ?_
  refine st_iconst (pc := 26) hC dJ6_bitCount_0f7a4_26 (by decide) ?_
  refine st_iushr (pc := 27) hC dJ6_bitCount_0f7a4_27 ?_
  refine st_iadd (pc := 28) hC dJ6_bitCount_0f7a4_28 ?_
  refine st_ldcw (pc := 29) hC dJ6_bitCount_0f7a4_29 rfl ?_
  refine st_iand (pc := 32) hC dJ6_bitCount_0f7a4_32 ?_
  refine st_istore_n (L2 := [iV (iandI (w32 ((w32 ((iandI (w32 (x0 - (iandI (iushrI x0 1) 1431655765))) 858993459) + (iandI (iushrI (w32 (x0 - (iandI (iushrI x0 1) 1431655765))) 2) 858993459))) + (iushrI (w32 ((iandI (w32 (x0 - (iandI (iushrI x0 1) 1431655765))) 858993459) + (iandI (iushrI (w32 (x0 - (iandI (iushrI x0 1) 1431655765))) 2) 858993459))) 4))) 252645135)]) (pc := 33) hC dJ6_bitCount_0f7a4_33 (Nat.le_of_ble_eq_true rfl) rfl ?_
  refine st_iload_n (pc := 34) hC dJ6_bitCount_0f7a4_34 rfl ?_
  refine st_iload_n (pc := 35) hC dJ6_bitCount_0f7a4_35 rfl ?_
  refine st_bipush (pc := 36) hC dJ6_bitCount_0f7a4_36 (by decide) ?_
  refine st_iushr (pc := 38) hC dJ6_bitCount_0f7a4_38 ?_
  refine st_iadd (pc := 39) hC dJ6_bitCount_0f7a4_39 ?_
  refine st_istore_n (L2 := [iV (w32 ((iandI (w32 ((w32 ((iandI (w32 (x0 - (iandI (iushrI x0 1) 1431655765))) 858993459) + (iandI (iushrI (w32 (x0 - (iandI (iushrI x0 1) 1431655765))) 2) 858993459))) + (iushrI (w32 ((iandI (w32 (x0 - (iandI (iushrI x0 1) 1431655765))) 858993459) + (iandI (iushrI (w32 (x0 - (iandI (iushrI x0 1) 1431655765))) 2) 858993459))) 4))) 252645135) + (iushrI (iandI (w32 ((w32 ((iandI (w32 (x0 - (iandI (iushrI x0 1) 1431655765))) 858993459) + (iandI (iushrI (w32 (x0 - (iandI (iushrI x0 1) 1431655765))) 2) 858993459))) + (iushrI (w32 ((iandI (w32 (x0 - (iandI (iushrI x0 1) 1431655765))) 858993459) + (iandI (iushrI (w32 (x0 - (iandI (iushrI x0 1) 1431655765))) 2) 858993459))) 4))) 252645135) 8)))]) (pc := 40) hC dJ6_bitCount_0f7a4_40 (Nat.le_of_ble_eq_true rfl) rfl ?_
  refine st_iload_n (pc := 41) hC dJ6_bitCount_0f7a4_41 rfl ?_
  refine st_iload_n (pc := 42) hC dJ6_bitCount_0f7a4_42 rfl ?_
  refine st_bipush (pc := 43) hC dJ6_bitCount_0f7a4_43 (by decide) ?_
  refine st_iushr (pc := 45) hC dJ6_bitCount_0f7a4_45 ?_
  refine st_iadd (pc := 46) hC dJ6_bitCount_0f7a4_46 ?_
  refine st_istore_n (L2 := [iV (w32 ((w32 ((iandI (w32 ((w32 ((iandI (w32 (x0 - (iandI (iushrI x0 1) 1431655765))) 858993459) + (iandI (iushrI (w32 (x0 - (iandI (iushrI x0 1) 1431655765))) 2) 858993459))) + (iushrI (w32 ((iandI (w32 (x0 - (iandI (iushrI x0 1) 1431655765))) 858993459) + (iandI (iushrI (w32 (x0 - (iandI (iushrI x0 1) 1431655765))) 2) 858993459))) 4))) 252645135) + (iushrI (iandI (w32 ((w32 ((iandI (w32 (x0 - (iandI (iushrI x0 1) 1431655765))) 858993459) + (iandI (iushrI (w32 (x0 - (iandI (iushrI x0 1) 1431655765))) 2) 858993459))) + (iushrI (w32 ((iandI (w32 (x0 - (iandI (iushrI x0 1) 1431655765))) 858993459) + (iandI (iushrI (w32 (x0 - (iandI (iushrI x0 1) 1431655765))) 2) 858993459))) 4))) 252645135) 8))) + (iushrI (w32 ((iandI (w32 ((w32 ((iandI (w32 (x0 - (iandI (iushrI x0 1) 1431655765))) 858993459) + (iandI (iushrI (w32 (x0 - (iandI (iushrI x0 1) 1431655765))) 2) 858993459))) + (iushrI (w32 ((iandI (w32 (x0 - (iandI (iushrI x0 1) 1431655765))) 858993459) + (iandI (iushrI (w32 (x0 - (iandI (iushrI x0 1) 1431655765))) 2) 858993459))) 4))) 252645135) + (iushrI (iandI (w32 ((w32 ((iandI (w32 (x0 - (iandI (iushrI x0 1) 1431655765))) 858993459) + (iandI (iushrI (w32 (x0 - (iandI (iushrI x0 1) 1431655765))) 2) 858993459))) + (iushrI (w32 ((iandI (w32 (x0 - (iandI (iushrI x0 1) 1431655765))) 858993459) + (iandI (iushrI (w32 (x0 - (iandI (iushrI x0 1) 1431655765))) 2) 858993459))) 4))) 252645135) 8))) 16)))]) (pc := 47) hC dJ6_bitCount_0f7a4_47 (Nat.le_of_ble_eq_true rfl) rfl ?_
  refine st_iload_n (pc := 48) hC dJ6_bitCount_0f7a4_48 rfl ?_
  refine st_bipush (pc := 49) hC dJ6_bitCount_0f7a4_49 (by decide) ?_
  refine st_iand (pc := 51) hC dJ6_bitCount_0f7a4_51 ?_
  exact st_ireturn (pc := 52) hC dJ6_bitCount_0f7a4_52 trivial h
theorem bJ0_length_8abf5_0 {C : Nat → List Vv → Sg → Rs → Sg → Prop} {X : Nat → List Vv → List Vv → Sg → Prop} {Xr : List Vv → Sg → Prop} {Xt : Nat → Sg → Prop} (hC : Clo C 13 cJ0_length_8abf5 (some .int) X Xr Xt) {t0 : Nat} {σ : Sg} (h : t0 < 1000 + SLen.length ∧ ((t0 + 1000) < 2000 + SLen.length ∧ (t0 < 1000 + SLen.length ∧ (∃ v1 : Int, C MJ0_coder_7d493 [rV 30 t0] σ (.inl [iV v1]) σ ∧ (Xr [iV (ishrI ((SLen.getD ((t0 + 1000) - 2000) 0 : Nat) : Int) v1)] σ))))) : X 0 [rV 30 t0] [] σ := by
  refine st_aload_n (pc := 0) hC dJ0_length_8abf5_0 rfl (by decide) (by decide) ?_
  obtain ⟨h0, h⟩ := h
  refine st_getfV (pc := 1) hC dJ0_length_8abf5_1 rfl h0 ?_
  obtain ⟨h0, h⟩ := h
  refine st_alenB (pc := 4) hC dJ0_length_8abf5_4 h0 ?_
  refine st_aload_n (pc := 5) hC dJ0_length_8abf5_5 rfl (by decide) (by decide) ?_
  obtain ⟨h00, h⟩ := h
  obtain ⟨v1, hq, h⟩ := h
  refine st_invT (As := []) (v := [iV v1]) (S := [iV ((SLen.getD ((t0 + 1000) - 2000) 0 : Nat) : Int)]) (pc := 6) hC dJ0_length_8abf5_6 cl_13_335 rfl rfl (Nat.le_of_ble_eq_true rfl) h00 rfl hq ?_
  refine st_ishr (pc := 9) hC dJ0_length_8abf5_9 ?_
  exact st_ireturn (pc := 10) hC dJ0_length_8abf5_10 trivial h
theorem bJ0_charAt_5068e_0 {C : Nat → List Vv → Sg → Rs → Sg → Prop} {X : Nat → List Vv → List Vv → Sg → Prop} {Xr : List Vv → Sg → Prop} {Xt : Nat → Sg → Prop} (hC : Clo C 13 cJ0_charAt_5068e (some .char) X Xr Xt) {x1 : Int} {t0 : Nat} {σ : Sg} (h : t0 < 1000 + SLen.length ∧ (∃ v1 : Int, C MJ0_isLatin1_aae02 [rV 30 t0] σ (.inl [iV v1]) σ ∧ (if v1 = 0 then (t0 < 1000 + SLen.length ∧ (False)) else (t0 < 1000 + SLen.length ∧ (∃ v2 : Int, C MJ1_charAt_3b067 [rV 31 (t0 + 1000), iV x1] σ (.inl [iV v2]) σ ∧ (((0 : Int) ≤ v2 ∧ v2 < 65536) ∧ Xr [iV v2] σ)))))) : X 0 [rV 30 t0, iV x1] [] σ := by
  refine st_aload_n (pc := 0) hC dJ0_charAt_5068e_0 rfl (by decide) (by decide) ?_
  obtain ⟨h00, h⟩ := h
  obtain ⟨v1, hq, h⟩ := h
  refine st_invT (As := []) (v := [iV v1]) (S := []) (pc := 1) hC dJ0_charAt_5068e_1 cl_13_492 rfl rfl (Nat.le_of_ble_eq_true rfl) h00 rfl hq ?_
  refine st_if_eq (tg := 16) (pc := 4) hC dJ0_charAt_5068e_4 (by decide) (ite_im h (fun h => ?_) (fun h => ?_))
  · refine st_aload_n (pc := 16) hC dJ0_charAt_5068e_16 rfl (by decide) (by decide) ?_
    obtain ⟨h0, h⟩ := h
    refine st_getfV (pc := 17) hC dJ0_charAt_5068e_17 rfl h0 ?_
    refine st_iload_n (pc := 20) hC dJ0_charAt_5068e_20 rfl ?_
    exact h.elim
  · refine st_aload_n (pc := 7) hC dJ0_charAt_5068e_7 rfl (by decide) (by decide) ?_
    obtain ⟨h0, h⟩ := h
    refine st_getfV (pc := 8) hC dJ0_charAt_5068e_8 rfl h0 ?_
    refine st_iload_n (pc := 11) hC dJ0_charAt_5068e_11 rfl ?_
    obtain ⟨v2, hq, h⟩ := h
    refine st_invS (As := [rV 31 (t0 + 1000), iV x1]) (v := [iV v2]) (S := []) (pc := 12) hC dJ0_charAt_5068e_12 cl_13_495 rfl rfl (Nat.le_of_ble_eq_true rfl) hq ?_
    exact st_ireturn (pc := 15) hC dJ0_charAt_5068e_15 h.1 h.2
theorem bJ0_coder_7d493_0 {C : Nat → List Vv → Sg → Rs → Sg → Prop} {X : Nat → List Vv → List Vv → Sg → Prop} {Xr : List Vv → Sg → Prop} {Xt : Nat → Sg → Prop} (hC : Clo C 13 cJ0_coder_7d493 (some .byte) X Xr Xt) {t0 : Nat} {σ : Sg} (h : t0 < 1000 + SLen.length ∧ (Xr [iV 0] σ)) : X 0 [rV 30 t0] [] σ := by
  refine st_getsC (pc := 0) hC dJ0_coder_7d493_0 rfl ?_
  refine st_if_eq (tg := 13) (pc := 3) hC dJ0_coder_7d493_3 (by decide) ?_
  rw [if_neg (by decide)]
  refine st_aload_n (pc := 6) hC dJ0_coder_7d493_6 rfl (by decide) (by decide) ?_
  obtain ⟨h0, h⟩ := h
  refine st_getfC (pc := 7) hC dJ0_coder_7d493_7 rfl h0 ?_
  refine st_goto (tg := 14) (pc := 10) hC dJ0_coder_7d493_10 (by decide) ?_
  exact st_ireturn (pc := 14) hC dJ0_coder_7d493_14 ⟨by decide, by decide⟩ h
theorem bJ0_isLatin1_aae02_0 {C : Nat → List Vv → Sg → Rs → Sg → Prop} {X : Nat → List Vv → List Vv → Sg → Prop} {Xr : List Vv → Sg → Prop} {Xt : Nat → Sg → Prop} (hC : Clo C 13 cJ0_isLatin1_aae02 (some .boolean) X Xr Xt) {t0 : Nat} {σ : Sg} (h : t0 < 1000 + SLen.length ∧ (Xr [iV 1] σ)) : X 0 [rV 30 t0] [] σ := by
  refine st_getsC (pc := 0) hC dJ0_isLatin1_aae02_0 rfl ?_
  refine st_if_eq (tg := 17) (pc := 3) hC dJ0_isLatin1_aae02_3 (by decide) ?_
  rw [if_neg (by decide)]
  refine st_aload_n (pc := 6) hC dJ0_isLatin1_aae02_6 rfl (by decide) (by decide) ?_
  obtain ⟨h0, h⟩ := h
  refine st_getfC (pc := 7) hC dJ0_isLatin1_aae02_7 rfl h0 ?_
  refine st_if_ne (tg := 17) (pc := 10) hC dJ0_isLatin1_aae02_10 (by decide) ?_
  rw [if_pos (by decide)]
  refine st_iconst (pc := 13) hC dJ0_isLatin1_aae02_13 (by decide) ?_
  refine st_goto (tg := 18) (pc := 14) hC dJ0_isLatin1_aae02_14 (by decide) ?_
  exact st_ireturn (pc := 18) hC dJ0_isLatin1_aae02_18 (Or.inr rfl) h
theorem bJ0_checkIndex_df160_0 {C : Nat → List Vv → Sg → Rs → Sg → Prop} {X : Nat → List Vv → List Vv → Sg → Prop} {Xr : List Vv → Sg → Prop} {Xt : Nat → Sg → Prop} (hC : Clo C 13 cJ0_checkIndex_df160 none X Xr Xt) {x0 x1 : Int} {σ : Sg} (h : ∃ v1 : Int, C MJ3_checkIndex_8e157 [iV x0, iV x1, rV 33 0] σ (.inl [iV v1]) σ ∧ (Xr [] σ)) : X 0 [iV x0, iV x1] [] σ := by
  refine st_iload_n (pc := 0) hC dJ0_checkIndex_df160_0 rfl ?_
  refine st_iload_n (pc := 1) hC dJ0_checkIndex_df160_1 rfl ?_
  refine st_getsF (pc := 2) hC dJ0_checkIndex_df160_2 rfl ?_
  obtain ⟨v1, hq, h⟩ := h
  refine st_invS (As := [iV x0, iV x1, rV 33 0]) (v := [iV v1]) (S := []) (pc := 5) hC dJ0_checkIndex_df160_5 cl_13_1059 rfl rfl (Nat.le_of_ble_eq_true rfl) hq ?_
  refine st_pop (pc := 8) hC dJ0_checkIndex_df160_8 ?_
  exact st_return (pc := 9) hC dJ0_checkIndex_df160_9 h
theorem bJ1_charAt_3b067_0 {C : Nat → List Vv → Sg → Rs → Sg → Prop} {X : Nat → List Vv → List Vv → Sg → Prop} {Xr : List Vv → Sg → Prop} {Xt : Nat → Sg → Prop} (hC : Clo C 14 cJ1_charAt_3b067 (some .char) X Xr Xt) {x1 : Int} {t0 : Nat} {σ : Sg} (h : t0 < 2000 + SLen.length ∧ (C MJ0_checkIndex_df160 [iV x1, iV ((SLen.getD (t0 - 2000) 0 : Nat) : Int)] σ (.inl []) σ ∧ (t0 < 2000 + SLen.length ∧ (0 ≤ x1 ∧ x1 < ((SLen.getD (t0 - 2000) 0 : Nat) : Int)) ∧ ((0 ≤ (iandI (schr (t0 - 2000) (x1).toNat) 255) ∧ (iandI (schr (t0 - 2000) (x1).toNat) 255) < 65536) ∧ (((0 : Int) ≤ (iandI (schr (t0 - 2000) (x1).toNat) 255) ∧ (iandI (schr (t0 - 2000) (x1).toNat) 255) < 65536) ∧ Xr [iV (iandI (schr (t0 - 2000) (x1).toNat) 255)] σ))))) : X 0 [rV 31 t0, iV x1] [] σ := by
  refine st_iload_n (pc := 0) hC dJ1_charAt_3b067_0 rfl ?_
  refine st_aload_n (pc := 1) hC dJ1_charAt_3b067_1 rfl (by decide) (by decide) ?_
  obtain ⟨h0, h⟩ := h
  refine st_alenB (pc := 2) hC dJ1_charAt_3b067_2 h0 ?_
  obtain ⟨hq, h⟩ := h
  refine st_invS (As := [iV x1, iV ((SLen.getD (t0 - 2000) 0 : Nat) : Int)]) (v := []) (S := []) (pc := 3) hC dJ1_charAt_3b067_3 cl_14_9 rfl rfl (Nat.le_of_ble_eq_true rfl) hq ?_
  refine st_aload_n (pc := 6) hC dJ1_charAt_3b067_6 rfl (by decide) (by decide) ?_
  refine st_iload_n (pc := 7) hC dJ1_charAt_3b067_7 rfl ?_
  obtain ⟨h0, h1, h⟩ := h
  refine st_baldB (pc := 8) hC dJ1_charAt_3b067_8 h0 h1 ?_
  refine st_sipush (pc := 9) hC dJ1_charAt_3b067_9 (by decide) ?_
  refine st_iand (pc := 12) hC dJ1_charAt_3b067_12 ?_
  obtain ⟨h0, h⟩ := h
  refine st_i2c (pc := 13) hC dJ1_charAt_3b067_13 h0 ?_
  exact st_ireturn (pc := 14) hC dJ1_charAt_3b067_14 h.1 h.2
theorem bJ7_fill_d0a16_0 {C : Nat → List Vv → Sg → Rs → Sg → Prop} {X : Nat → List Vv → List Vv → Sg → Prop} {Xr : List Vv → Sg → Prop} {Xt : Nat → Sg → Prop} (hC : Clo C 17 cJ7_fill_d0a16 none X Xr Xt) {x1 : Int} {t0 n0 : Nat} {σ : Sg} (hn : 1000000 ≤ 2000000 + n0 ∧ (2000000 + n0) % 1000000 = n0) (hn2 : (2000000 + n0) / 1000000 = 2 ∧ (2000000 + n0) % 1000000 = n0) (h : X 6 [rV (2000000 + n0) t0, lV x1, uV, iV 0, iV (n0 : Int)] [] σ) : X 0 [rV (2000000 + n0) t0, lV x1, uV, uV, uV] [] σ := by
  refine st_iconst (pc := 0) hC dJ7_fill_d0a16_0 (by decide) ?_
  refine st_istore_n (L2 := [rV (2000000 + n0) t0, lV x1, uV, iV 0, uV]) (pc := 1) hC dJ7_fill_d0a16_1 (Nat.le_of_ble_eq_true rfl) rfl ?_
  refine st_aload_n (pc := 2) hC dJ7_fill_d0a16_2 rfl (by omega) (by omega) ?_
  refine st_alen (n := n0) (pc := 3) hC dJ7_fill_d0a16_3 hn ?_
  refine st_istore (L2 := [rV (2000000 + n0) t0, lV x1, uV, iV 0, iV (n0 : Int)]) (pc := 4) hC dJ7_fill_d0a16_4 (Nat.le_of_ble_eq_true rfl) rfl ?_
  exact h
theorem bJ7_fill_d0a16_6 {C : Nat → List Vv → Sg → Rs → Sg → Prop} {X : Nat → List Vv → List Vv → Sg → Prop} {Xr : List Vv → Sg → Prop} {Xt : Nat → Sg → Prop} (hC : Clo C 17 cJ7_fill_d0a16 none X Xr Xt) {x1 x3 x4 : Int} {t0 n0 : Nat} {σ : Sg} (hn : 1000000 ≤ 2000000 + n0 ∧ (2000000 + n0) % 1000000 = n0) (hn2 : (2000000 + n0) / 1000000 = 2 ∧ (2000000 + n0) % 1000000 = n0) (h : if x3 < x4 then ((0 ≤ x3 ∧ x3 < n0) ∧ (X 6 [rV (2000000 + n0) t0, lV x1, uV, iV (w32 (x3 + 1)), iV x4] [] (upS σ t0 (x3).toNat x1))) else (Xr [] σ)) : X 6 [rV (2000000 + n0) t0, lV x1, uV, iV x3, iV x4] [] σ := by
  refine st_iload_n (pc := 6) hC dJ7_fill_d0a16_6 rfl ?_
  refine st_iload (pc := 7) hC dJ7_fill_d0a16_7 rfl ?_
  refine st_icmp_ge (tg := 22) (pc := 9) hC dJ7_fill_d0a16_9 (by decide) (ite_im h (fun h => ?_) (fun h => ?_))
  · refine st_aload_n (pc := 12) hC dJ7_fill_d0a16_12 rfl (by omega) (by omega) ?_
    refine st_iload_n (pc := 13) hC dJ7_fill_d0a16_13 rfl ?_
    refine st_lload_n (pc := 14) hC dJ7_fill_d0a16_14 rfl ?_
    obtain ⟨hb, h⟩ := h
    refine st_last (n := n0) (pc := 15) hC dJ7_fill_d0a16_15 hn2 hb ?_
    refine st_iinc (L2 := [rV (2000000 + n0) t0, lV x1, uV, iV (w32 (x3 + 1)), iV x4]) (pc := 16) hC dJ7_fill_d0a16_16 rfl (Nat.le_of_ble_eq_true rfl) rfl ?_
    refine st_goto (tg := 6) (pc := 19) hC dJ7_fill_d0a16_19 (by decide) ?_
    exact h
  · exact st_return (pc := 22) hC dJ7_fill_d0a16_22 h
theorem bJ7_fill_53178_0 {C : Nat → List Vv → Sg → Rs → Sg → Prop} {X : Nat → List Vv → List Vv → Sg → Prop} {Xr : List Vv → Sg → Prop} {Xt : Nat → Sg → Prop} (hC : Clo C 17 cJ7_fill_53178 none X Xr Xt) {x1 : Int} {t0 n0 : Nat} {σ : Sg} (hn : 1000000 ≤ 1000000 + n0 ∧ (1000000 + n0) % 1000000 = n0) (hn2 : (1000000 + n0) / 1000000 = 1 ∧ (1000000 + n0) % 1000000 = n0) (h : X 5 [rV (1000000 + n0) t0, iV x1, iV 0, iV (n0 : Int)] [] σ) : X 0 [rV (1000000 + n0) t0, iV x1, uV, uV] [] σ := by
  refine st_iconst (pc := 0) hC dJ7_fill_53178_0 (by decide) ?_
  refine st_istore_n (L2 := [rV (1000000 + n0) t0, iV x1, iV 0, uV]) (pc := 1) hC dJ7_fill_53178_1 (Nat.le_of_ble_eq_true rfl) rfl ?_
  refine st_aload_n (pc := 2) hC dJ7_fill_53178_2 rfl (by omega) (by omega) ?_
  refine st_alen (n := n0) (pc := 3) hC dJ7_fill_53178_3 hn ?_
  refine st_istore_n (L2 := [rV (1000000 + n0) t0, iV x1, iV 0, iV (n0 : Int)]) (pc := 4) hC dJ7_fill_53178_4 (Nat.le_of_ble_eq_true rfl) rfl ?_
  exact h
theorem bJ7_fill_53178_5 {C : Nat → List Vv → Sg → Rs → Sg → Prop} {X : Nat → List Vv → List Vv → Sg → Prop} {Xr : List Vv → Sg → Prop} {Xt : Nat → Sg → Prop} (hC : Clo C 17 cJ7_fill_53178 none X Xr Xt) {x1 x2 x3 : Int} {t0 n0 : Nat} {σ : Sg} (hn : 1000000 ≤ 1000000 + n0 ∧ (1000000 + n0) % 1000000 = n0) (hn2 : (1000000 + n0) / 1000000 = 1 ∧ (1000000 + n0) % 1000000 = n0) (h : if x2 < x3 then ((0 ≤ x2 ∧ x2 < n0) ∧ (X 5 [rV (1000000 + n0) t0, iV x1, iV (w32 (x2 + 1)), iV x3] [] (upS σ t0 (x2).toNat x1))) else (Xr [] σ)) : X 5 [rV (1000000 + n0) t0, iV x1, iV x2, iV x3] [] σ := by
  refine st_iload_n (pc := 5) hC dJ7_fill_53178_5 rfl ?_
  refine st_iload_n (pc := 6) hC dJ7_fill_53178_6 rfl ?_
  refine st_icmp_ge (tg := 20) (pc := 7) hC dJ7_fill_53178_7 (by decide) (ite_im h (fun h => ?_) (fun h => ?_))
  · refine st_aload_n (pc := 10) hC dJ7_fill_53178_10 rfl (by omega) (by omega) ?_
    refine st_iload_n (pc := 11) hC dJ7_fill_53178_11 rfl ?_
    refine st_iload_n (pc := 12) hC dJ7_fill_53178_12 rfl ?_
    obtain ⟨hb, h⟩ := h
    refine st_iast (n := n0) (pc := 13) hC dJ7_fill_53178_13 hn2 hb ?_
    refine st_iinc (L2 := [rV (1000000 + n0) t0, iV x1, iV (w32 (x2 + 1)), iV x3]) (pc := 14) hC dJ7_fill_53178_14 rfl (Nat.le_of_ble_eq_true rfl) rfl ?_
    refine st_goto (tg := 5) (pc := 17) hC dJ7_fill_53178_17 (by decide) ?_
    exact h
  · exact st_return (pc := 20) hC dJ7_fill_53178_20 h
theorem bJ3_checkIndex_8e157_0 {C : Nat → List Vv → Sg → Rs → Sg → Prop} {X : Nat → List Vv → List Vv → Sg → Prop} {Xr : List Vv → Sg → Prop} {Xt : Nat → Sg → Prop} (hC : Clo C 18 cJ3_checkIndex_8e157 (some .int) X Xr Xt) {x0 x1 : Int} {σ : Sg} (h : if x0 < 0 then (False) else (if x0 < x1 then (Xr [iV x0] σ) else (False))) : X 0 [iV x0, iV x1, rV 33 0] [] σ := by
  refine st_iload_n (pc := 0) hC dJ3_checkIndex_8e157_0 rfl ?_
  refine st_if_lt (tg := 9) (pc := 1) hC dJ3_checkIndex_8e157_1 (by decide) (ite_im h (fun h => ?_) (fun h => ?_))
  · exact h.elim
  · refine st_iload_n (pc := 4) hC dJ3_checkIndex_8e157_4 rfl ?_
    refine st_iload_n (pc := 5) hC dJ3_checkIndex_8e157_5 rfl ?_
    refine st_icmp_lt (tg := 16) (pc := 6) hC dJ3_checkIndex_8e157_6 (by decide) (ite_im h (fun h => ?_) (fun h => ?_))
    · refine st_iload_n (pc := 16) hC dJ3_checkIndex_8e157_16 rfl ?_
      exact st_ireturn (pc := 17) hC dJ3_checkIndex_8e157_17 trivial h
    · exact h.elim
