/-! THE LAW'S LOOP -/
theorem thrown_ct (τ : Sg) : Ct 40 MX11_thrown [rV 20 66] τ (.inl [iV (τ 66 5)]) τ := (eX11_thrown (d := 1) (r := .inl [iV (τ 66 5)]) (σ' := τ) (fun X Xr Xt hC hr => bX11_thrown_0 hC hr)).mono (by decide)
theorem Inv_80 {ω : Nat → Int} (σ τ : Sg) (h : ∀ a, a ≠ 88 → τ a = σ a) (g : Inv ω σ) : Inv ω τ := Inv_fr g (ag80_fr h)
theorem sv_in {xs : Nat → Int32} {j : Int} : in32 (sv xs j) := ⟨Int32.le_toInt _, Int32.toInt_lt _⟩
theorem lg2_in {a b : Int} : in64 (lg2 a b) := by unfold lg2 lorI; exact ⟨Int64.le_toInt _, Int64.toInt_lt _⟩
set_option maxRecDepth 20000 in
/-- one call of the script -/
theorem lw_one {p : Program} {l : Launch} {e : Env} {R : Room} {s : State} {m : MethodId} {args : Array Value} {below : List Frame} {meth : Method} {c : Code} {K : KT} {A : Nat → Prop} {nL : Nat} {hh : Prop} {Q : State → Prop} {r : Option FieldType} {n : Nat} {xs : Nat → Int32} {ω : Nat → Int} {cl sl : Nat} {i z : Int} {σ : Sg} (W : LwC p l R s m args meth c K A nL r hh n xs (Inv ω)) (hω : wyT ω) (hi : 0 ≤ i ∧ i + 5 < (n : Int)) (hcl : cl + 1 ≤ R.cells) (hsl : sl + 6 ≤ R.slots) (hI : Inv ω σ) (hO : okS σ) (h : ∀ σ2, Inv ω σ2 → XM p l e R s m args below meth c K A nL (cl + 1) (sl + 6) Q 3786 (LL i uV uV uV) [] σ2) : XM p l e R s m args below meth c K A nL cl sl Q 40 (LL i uV uV uV) [iV z] σ := by
  obtain ⟨hfr, hlo, hn⟩ := (⟨W.2.2.2.2.2.2.2.1, W.2.2.2.2.2.2.2.2.1, W.2.2.2.2.2.2.2.2.2.1⟩ : 61 ≤ R.frames ∧ 1940 ≤ R.locals ∧ n < 2147483648)
  have hC := clo_L (Q := Q) (R := R) (e := e) (below := below) (cl := cl) (sl := sl) (d := 40) W.1 W.2.1 (by omega) (by omega) (by omega) (by omega)
  refine hC.1 _ _ _ _ _ _ dL_law_40 trivial ⟨z, [], rfl, fun _ => ⟨by decide, XM_wid (Nat.le_add_right _ _) (Nat.le_add_right _ _) (h σ hI)⟩, fun q1 q2 => ?_⟩
  obtain ⟨k, rfl⟩ : ∃ k : Nat, z = (k : Int) := ⟨z.toNat, by omega⟩
  have hk : k < 52 := by omega
  rw [show ((k : Int) - 0).toNat = k by omega]
  match k, hk with
  | 0, _ => exact ⟨224, rfl, by decide, lc_0 W hi hcl hsl (jn_feed hI (sv xs (i + 1)) (sv xs (i + 2)) (sv xs (i + 3)) (sv xs (i + 4)) (sv xs (i + 5))) h⟩
  | 1, _ => exact ⟨297, rfl, by decide, lc_1 W hi hcl hsl (jt_town hI (sv xs (i + 1))) h⟩
  | 2, _ => exact ⟨353, rfl, by decide, lc_2 W hi hcl hsl (jn_fault hI (sv xs (i + 1))) h⟩
  | 3, _ => exact ⟨378, rfl, by decide, lc_3 W hi hcl hsl (jt_coin hI (sv xs (i + 1))) h⟩
  | 4, _ => exact ⟨434, rfl, by decide, lc_4 W hi hcl hsl (jt_has hI (sv xs (i + 1)) (sv xs (i + 2))) h⟩
  | 5, _ => exact ⟨502, rfl, by decide, lc_5 W hi hcl hsl (jt_purse hI (sv xs (i + 1)) (sv xs (i + 2))) h⟩
  | 6, _ => exact ⟨570, rfl, by decide, lc_6 W hi hcl hsl (jt_worth hI (sv xs (i + 1))) h⟩
  | 7, _ => exact ⟨625, rfl, by decide, lc_7 W hi hcl hsl (jt_change hI (sv xs (i + 1)) (sv xs (i + 2))) h⟩
  | 8, _ => exact ⟨693, rfl, by decide, lc_8 W hi hcl hsl (jt_may hI (sv xs (i + 1)) (sv xs (i + 2)) (lg2 (sv xs (i + 3)) (sv xs (i + 4))) lg2_in) h⟩
  | 9, _ => exact ⟨805, rfl, by decide, lc_9 W hi hcl hsl (jt_pay hI (sv xs (i + 1)) (sv xs (i + 2)) (lg2 (sv xs (i + 3)) (sv xs (i + 4))) lg2_in) h⟩
  | 10, _ => exact ⟨917, rfl, by decide, lc_10 W hi hcl hsl (jt_changes hI (sv xs (i + 1)) (sv xs (i + 2))) h⟩
  | 11, _ => exact ⟨985, rfl, by decide, lc_11 W hi hcl hsl (jt_tax hI (sv xs (i + 1))) h⟩
  | 12, _ => exact ⟨1041, rfl, by decide, lc_12 W hi hcl hsl (jt_strike hI (sv xs (i + 1)) (sv xs (i + 2))) h⟩
  | 13, _ => exact ⟨1109, rfl, by decide, lc_13 W hi hcl hsl (jn_treasury hI (sv xs (i + 1))) h⟩
  | 14, _ => exact ⟨1134, rfl, by decide, lc_14 W hi hcl hsl (jt_readOut hI (lg2 (sv xs (i + 1)) (sv xs (i + 2)))) h⟩
  | 15, _ => exact ⟨1221, rfl, by decide, lc_15 W hi hcl hsl (jt_year hI (sv xs (i + 1)) (sv xs (i + 2))) h⟩
  | 16, _ => exact ⟨1289, rfl, by decide, lc_16 W hi hcl hsl (jt_judge hI hO (sv xs (i + 1)) (sv xs (i + 2))) h⟩
  | 17, _ => exact ⟨1357, rfl, by decide, lc_17 W hi hcl hsl (jt_perform hI hO (sv xs (i + 1))) h⟩
  | 18, _ => exact ⟨1413, rfl, by decide, lc_18 W hi hcl hsl (jt_prices hI (sv xs (i + 1))) h⟩
  | 19, _ => exact ⟨1469, rfl, by decide, lc_19 W hi hcl hsl (jt_price hI (sv xs (i + 1)) (sv xs (i + 2))) h⟩
  | 20, _ => exact ⟨1536, rfl, by decide, lc_20 W hi hcl hsl (jt_gap hI (sv xs (i + 1))) h⟩
  | 21, _ => exact ⟨1591, rfl, by decide, lc_21 W hi hcl hsl (jt_nearest hI (sv xs (i + 1)) (lg2 (sv xs (i + 2)) (sv xs (i + 3))) lg2_in) h⟩
  | 22, _ => exact ⟨1690, rfl, by decide, lc_22 W hi hcl hsl (jt_half hI (sv xs (i + 1))) h⟩
  | 23, _ => exact ⟨1745, rfl, by decide, lc_23 W hi hcl hsl (jt_fewest hI hω (sv xs (i + 1)) (lg2 (sv xs (i + 2)) (sv xs (i + 3))) lg2_in) h⟩
  | 24, _ => exact ⟨1845, rfl, by decide, lc_24 W hi hcl hsl (jt_together hI (sv xs (i + 1)) (lg2 (sv xs (i + 2)) (sv xs (i + 3))) (sv xs (i + 4)) lg2_in) h⟩
  | 25, _ => exact ⟨1957, rfl, by decide, lc_25 W hi hcl hsl (jt_between hI (sv xs (i + 1)) (lg2 (sv xs (i + 2)) (sv xs (i + 3))) (lg2 (sv xs (i + 4)) (sv xs (i + 5)))) h⟩
  | 26, _ => exact ⟨2101, rfl, by decide, lc_26 W hi hcl hsl (jt_dear hI (sv xs (i + 1)) (sv xs (i + 2))) h⟩
  | 27, _ => exact ⟨2169, rfl, by decide, lc_27 W hi hcl hsl (jn_gainer hI) h⟩
  | 28, _ => exact ⟨2182, rfl, by decide, lc_28 W hi hcl hsl (jt_grows hI hω (sv xs (i + 1)) (sv xs (i + 2))) h⟩
  | 29, _ => exact ⟨2249, rfl, by decide, lc_29 W hi hcl hsl (jt_swap hI (sv xs (i + 1)) (sv xs (i + 2)) (sv xs (i + 3))) h⟩
  | 30, _ => exact ⟨2328, rfl, by decide, lc_30 W hi hcl hsl (jt_common hI (sv xs (i + 1)) (sv xs (i + 2))) h⟩
  | 31, _ => exact ⟨2395, rfl, by decide, lc_31 W hi hcl hsl (jt_least hI (sv xs (i + 1)) (sv xs (i + 2))) h⟩
  | 32, _ => exact ⟨2463, rfl, by decide, lc_32 W hi hcl hsl (jn_friends hI) h⟩
  | 33, _ => exact ⟨2476, rfl, by decide, lc_33 W hi hcl hsl (jt_stolen hI (sv xs (i + 1)) (lg2 (sv xs (i + 2)) (sv xs (i + 3))) (lg2 (sv xs (i + 4)) (sv xs (i + 5))) lg2_in lg2_in) h⟩
  | 34, _ => exact ⟨2620, rfl, by decide, lc_34 W hi hcl hsl (jt_fitting hI hO (sv xs (i + 1)) (sv xs (i + 2)) (sv xs (i + 3)) sv_in) h⟩
  | 35, _ => exact ⟨2699, rfl, by decide, lc_35 W hi hcl hsl (jt_trial hI (sv xs (i + 1)) (sv xs (i + 2))) h⟩
  | 36, _ => exact ⟨2767, rfl, by decide, lc_36 W hi hcl hsl (jt_squares hI (sv xs (i + 1)) (sv xs (i + 2))) h⟩
  | 37, _ => exact ⟨2835, rfl, by decide, lc_37 W hi hcl hsl (jt_rounds hI (sv xs (i + 1)) (sv xs (i + 2)) (sv xs (i + 3))) h⟩
  | 38, _ => exact ⟨2915, rfl, by decide, lc_38 W hi hcl hsl (jt_factor hI (sv xs (i + 1)) (sv xs (i + 2))) h⟩
  | 39, _ => exact ⟨2983, rfl, by decide, lc_39 W hi hcl hsl (jt_smooth hI (sv xs (i + 1)) (sv xs (i + 2))) h⟩
  | 40, _ => exact ⟨3051, rfl, by decide, lc_40 W hi hcl hsl (jt_primesTo hI (sv xs (i + 1))) h⟩
  | 41, _ => exact ⟨3107, rfl, by decide, lc_41 W hi hcl hsl (jt_witness hI (sv xs (i + 1))) h⟩
  | 42, _ => exact ⟨3163, rfl, by decide, lc_42 W hi hcl hsl (jt_order hI (sv xs (i + 1)) (sv xs (i + 2))) h⟩
  | 43, _ => exact ⟨3231, rfl, by decide, lc_43 W hi hcl hsl (jt_owe hI (sv xs (i + 1)) (sv xs (i + 2)) (lg2 (sv xs (i + 3)) (sv xs (i + 4))) lg2_in) h⟩
  | 44, _ => exact ⟨3342, rfl, by decide, lc_44 W hi hcl hsl (jt_owed hI (sv xs (i + 1)) (sv xs (i + 2))) h⟩
  | 45, _ => exact ⟨3409, rfl, by decide, lc_45 W hi hcl hsl (jn_struck hI) h⟩
  | 46, _ => exact ⟨3422, rfl, by decide, lc_46 W hi hcl hsl (jv_tray hI (sv xs (i + 1)) (sv xs (i + 2)) (sv xs (i + 3))) h⟩
  | 47, _ => exact ⟨3482, rfl, by decide, lc_47 W hi hcl hsl (jt_write hI (sv xs (i + 1)) (sv xs (i + 2)) (lg2 (sv xs (i + 3)) (sv xs (i + 4))) lg2_in) h⟩
  | 48, _ => exact ⟨3593, rfl, by decide, lc_48 W hi hcl hsl (jt_pour hI (sv xs (i + 1))) h⟩
  | 49, _ => exact ⟨3649, rfl, by decide, lc_49 W hi hcl hsl (jv_image hI (sv xs (i + 1))) h⟩
  | 50, _ => exact ⟨3685, rfl, by decide, lc_50 W hi hcl hsl (jv_restore hI (sv xs (i + 1))) h⟩
  | 51, _ => exact ⟨3721, rfl, by decide, lc_51 W hi hcl hsl (jn_count hI (sv xs (i + 1))) h⟩
  | k + 52, hk => omega
/-- the loop -/
theorem lw_loop {p : Program} {l : Launch} {e : Env} {R : Room} {s : State} {m : MethodId} {args : Array Value} {below : List Frame} {meth : Method} {c : Code} {K : KT} {A : Nat → Prop} {nL : Nat} {hh : Prop} {Q : State → Prop} {r : Option FieldType} {n : Nat} {xs : Nat → Int32} {ω : Nat → Int} (W : LwC p l R s m args meth c K A nL r hh n xs (Inv ω)) (hω : wyT ω) (hEnd : ∀ cl sl i σ, cl ≤ R.cells → sl ≤ R.slots → XM p l e R s m args below meth c K A nL cl sl Q 3792 (LL i uV uV uV) [] σ) :
    ∀ (d : Nat) (i : Int) (cl sl : Nat) (σ : Sg), Inv ω σ → 0 ≤ i → i ≤ (n : Int) → (n : Int) ≤ i + 6 * d + 5 → cl + d ≤ R.cells → sl + 6 * d ≤ R.slots → XM p l e R s m args below meth c K A nL cl sl Q 23 (LL i uV uV uV) [] σ := by
  obtain ⟨hfr, hlo, hn⟩ := (⟨W.2.2.2.2.2.2.2.1, W.2.2.2.2.2.2.2.2.1, W.2.2.2.2.2.2.2.2.2.1⟩ : 61 ≤ R.frames ∧ 1940 ≤ R.locals ∧ n < 2147483648)
  intro d
  induction d with
  | zero =>
    intro i cl sl σ hI hi0 hin hd hcl hsl
    have hC := clo_L (Q := Q) (R := R) (e := e) (below := below) (cl := cl) (sl := sl) (d := 40) W.1 W.2.1 (by omega) (by omega) (by omega) (by omega)
    refine st_iload hC dL_law_23 rfl ?_
    refine st_aload_n hC dL_law_25 rfl (by decide) (by decide) ?_
    refine sc_len W dL_law_26 ?_
    refine st_bipush hC dL_law_27 rfl ?_
    refine st_isub hC dL_law_29 ?_
    refine st_icmp_gt (tg := 3792) hC dL_law_30 rfl ?_
    rw [show w32 ((n : Int) - 6) = (n : Int) - 6 by unfold w32; omega, if_pos (show (n : Int) - 6 < i by omega)]
    exact hEnd cl sl i σ (by omega) (by omega)
  | succ d ih =>
    intro i cl sl σ hI hi0 hin hd hcl hsl
    have hC := clo_L (Q := Q) (R := R) (e := e) (below := below) (cl := cl) (sl := sl) (d := 40) W.1 W.2.1 (by omega) (by omega) (by omega) (by omega)
    refine st_iload hC dL_law_23 rfl ?_
    refine st_aload_n hC dL_law_25 rfl (by decide) (by decide) ?_
    refine sc_len W dL_law_26 ?_
    refine st_bipush hC dL_law_27 rfl ?_
    refine st_isub hC dL_law_29 ?_
    refine st_icmp_gt (tg := 3792) hC dL_law_30 rfl ?_
    rw [show w32 ((n : Int) - 6) = (n : Int) - 6 by unfold w32; omega]
    by_cases hb : (n : Int) - 6 < i
    · rw [if_pos hb]
      exact hEnd cl sl i σ (by omega) (by omega)
    · rw [if_neg hb]
      refine st_aload_n hC dL_law_33 rfl (by decide) (by decide) ?_
      refine st_iload hC dL_law_34 rfl ?_
      refine sc_at W ⟨hi0, by omega⟩ dL_law_36 ?_
      refine st_bipush hC dL_law_37 rfl ?_
      refine st_iand hC dL_law_39 ?_
      refine st_ok hC (fun _ _ hO => ?_)
      refine lw_one W hω ⟨hi0, by omega⟩ (by omega) (by omega) hI hO (fun σ2 hI2 => ?_)
      have hC1 := clo_L (Q := Q) (R := R) (e := e) (below := below) (cl := cl + 1) (sl := sl + 6) (d := 40) W.1 W.2.1 (by omega) (by omega) (by omega) (by omega)
      refine st_iinc hC1 dL_law_3786 rfl (Nat.le_of_ble_eq_true rfl) (L2 := LL (i + 6) uV uV uV) (by rw [show w32 (i + 6) = i + 6 by unfold w32; omega]; rfl) ?_
      refine st_goto (tg := 23) hC1 dL_law_3789 rfl ?_
      exact ih (i + 6) (cl + 1) (sl + 6) σ2 hI2 (by omega) (by omega) (by omega) (by omega) (by omega)
