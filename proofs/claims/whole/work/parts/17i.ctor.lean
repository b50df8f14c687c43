/-! the constructors -/
theorem i_nn {a : Nat} (ha : a < 2147483648) : ¬ Int32.ofInt (a : Int) < 0 := by
  intro h
  have h2 := (i32_lt (x := (a : Int)) (y := 0) (by unfold in32; omega) (by unfold in32; omega)).mp h
  omega

set_option maxRecDepth 100000 in
set_option maxHeartbeats 4000000 in
theorem i_X0 {l : Launch} {D : va_G} {kA : Nat → ClassId} (h : Nat) : CtI l D kA yX0_init cX0_init 1 0 [.ref h] [(h, .inr (0, dflV 0))] 1 4 (fun w1 => ∃ q1 : Nat, w1 = ((h, .inr (0, [.ref q1])) :: (q1, .inl (kA 1, 4, .inl (fun _ => 0))) :: [])) := by
  refine mk_I (own := 0) (by decide +kernel) rfl (Nat.le_of_ble_eq_true rfl) ?_
  intro p e s m args below meth c A C hA hr
  refine xi_w (w2 := ((h, .inr (0, [.null])) :: [])) rfl ?_
  refine xi_aload C 0 0 dX0_init_0 rfl rfl ?_
  refine xi_objInit C dX0_init_1 gi5 (Nat.le_of_ble_eq_true rfl) (Nat.le_of_ble_eq_true rfl) (Nat.le_of_ble_eq_true rfl) ?_
  refine xi_aload C 0 0 dX0_init_4 rfl rfl ?_
  refine xi_iconst C (Int32.ofInt ((4 : Nat) : Int)) dX0_init_5 rfl ?_
  refine xi_newI C 4 dX0_init_6 (i_nn (a := 4) (by decide)) (i_cl (a := 4) (by decide)) (Nat.le_of_ble_eq_true rfl) (Nat.le_of_ble_eq_true rfl) (Nat.le_of_ble_eq_true rfl) (fun q1 => ?_)
  refine xi_w (w2 := ((h, .inr (0, [.null])) :: (q1, .inl (kA 1, 4, .inl (fun _ => 0))) :: [])) rfl ?_
  refine xi_putF C 0 (.array .int) dX0_init_8 rfl rfl (by decide +kernel) rfl rfl rfl rfl (Nat.le_of_ble_eq_true rfl) ?_
  refine xi_w (w2 := ((h, .inr (0, [.ref q1])) :: (q1, .inl (kA 1, 4, .inl (fun _ => 0))) :: [])) rfl ?_
  exact xi_return C hA hr dX0_init_11 (Nat.le_of_ble_eq_true rfl) (Nat.le_of_ble_eq_true rfl) ⟨q1, rfl⟩

set_option maxRecDepth 100000 in
set_option maxHeartbeats 4000000 in
theorem i_X2 {l : Launch} {D : va_G} {kA : Nat → ClassId} (h : Nat) : CtI l D kA yX2_init cX2_init 1 0 [.ref h] [(h, .inr (2, dflV 2))] 0 0 (fun w1 => w1 = ((h, .inr (2, [.int (Int32.ofInt ((0 : Nat) : Int))])) :: [])) := by
  refine mk_I (own := 2) (by decide +kernel) rfl (Nat.le_of_ble_eq_true rfl) ?_
  intro p e s m args below meth c A C hA hr
  refine xi_w (w2 := ((h, .inr (2, [.int 0])) :: [])) rfl ?_
  refine xi_aload C 0 0 dX2_init_0 rfl rfl ?_
  refine xi_objInit C dX2_init_1 gi15 (Nat.le_of_ble_eq_true rfl) (Nat.le_of_ble_eq_true rfl) (Nat.le_of_ble_eq_true rfl) ?_
  refine xi_aload C 0 0 dX2_init_4 rfl rfl ?_
  refine xi_iconst C (Int32.ofInt ((0 : Nat) : Int)) dX2_init_5 rfl ?_
  refine xi_put C 0 .int dX2_init_6 rfl rfl (by decide +kernel) rfl rfl rfl (Nat.le_of_ble_eq_true rfl) ?_
  refine xi_w (w2 := ((h, .inr (2, [.int (Int32.ofInt ((0 : Nat) : Int))])) :: [])) rfl ?_
  exact xi_return C hA hr dX2_init_9 (Nat.le_of_ble_eq_true rfl) (Nat.le_of_ble_eq_true rfl) rfl

set_option maxRecDepth 100000 in
set_option maxHeartbeats 4000000 in
theorem i_X9 {l : Launch} {D : va_G} {kA : Nat → ClassId} (h : Nat) : CtI l D kA yX9_init cX9_init 1 0 [.ref h] [(h, .inr (8, dflV 8))] 1 30 (fun w1 => ∃ q1 : Nat, w1 = ((h, .inr (8, [.int (-1), .int (Int32.ofInt ((0 : Nat) : Int)), .ref q1])) :: (q1, .inl (kA 2, 30, .inr (.inl (fun _ => 0)))) :: [])) := by
  refine mk_I (own := 9) (by decide +kernel) rfl (Nat.le_of_ble_eq_true rfl) ?_
  intro p e s m args below meth c A C hA hr
  refine xi_w (w2 := ((h, .inr (8, [.int 0, .int 0, .null])) :: [])) rfl ?_
  refine xi_aload C 0 0 dX9_init_0 rfl rfl ?_
  refine xi_objInit C dX9_init_1 gi49 (Nat.le_of_ble_eq_true rfl) (Nat.le_of_ble_eq_true rfl) (Nat.le_of_ble_eq_true rfl) ?_
  refine xi_aload C 0 0 dX9_init_4 rfl rfl ?_
  refine xi_iconst C (-1) dX9_init_5 rfl ?_
  refine xi_put C 0 .int dX9_init_6 rfl rfl (by decide +kernel) rfl rfl rfl (Nat.le_of_ble_eq_true rfl) ?_
  refine xi_w (w2 := ((h, .inr (8, [.int (-1), .int 0, .null])) :: [])) rfl ?_
  refine xi_aload C 0 0 dX9_init_9 rfl rfl ?_
  refine xi_iconst C (Int32.ofInt ((0 : Nat) : Int)) dX9_init_10 rfl ?_
  refine xi_put C 0 .int dX9_init_11 rfl rfl (by decide +kernel) rfl rfl rfl (Nat.le_of_ble_eq_true rfl) ?_
  refine xi_w (w2 := ((h, .inr (8, [.int (-1), .int (Int32.ofInt ((0 : Nat) : Int)), .null])) :: [])) rfl ?_
  refine xi_aload C 0 0 dX9_init_14 rfl rfl ?_
  refine xi_bipush C (Int32.ofInt ((30 : Nat) : Int)) dX9_init_15 rfl ?_
  refine xi_newJ C 30 dX9_init_17 (i_nn (a := 30) (by decide)) (i_cl (a := 30) (by decide)) (Nat.le_of_ble_eq_true rfl) (Nat.le_of_ble_eq_true rfl) (Nat.le_of_ble_eq_true rfl) (fun q1 => ?_)
  refine xi_w (w2 := ((h, .inr (8, [.int (-1), .int (Int32.ofInt ((0 : Nat) : Int)), .null])) :: (q1, .inl (kA 2, 30, .inr (.inl (fun _ => 0)))) :: [])) rfl ?_
  refine xi_putF C 0 (.array .long) dX9_init_19 rfl rfl (by decide +kernel) rfl rfl rfl rfl (Nat.le_of_ble_eq_true rfl) ?_
  refine xi_w (w2 := ((h, .inr (8, [.int (-1), .int (Int32.ofInt ((0 : Nat) : Int)), .ref q1])) :: (q1, .inl (kA 2, 30, .inr (.inl (fun _ => 0)))) :: [])) rfl ?_
  exact xi_return C hA hr dX9_init_22 (Nat.le_of_ble_eq_true rfl) (Nat.le_of_ble_eq_true rfl) ⟨q1, rfl⟩

set_option maxRecDepth 100000 in
set_option maxHeartbeats 4000000 in
theorem i_X4 {l : Launch} {D : va_G} {kA : Nat → ClassId} (h : Nat) : CtI l D kA yX4_init cX4_init 1 0 [.ref h] [(h, .inr (3, dflV 3))] 2 768 (fun w1 => ∃ q1 : Nat, ∃ q2 : Nat, w1 = ((h, .inr (3, [.int (Int32.ofInt ((0 : Nat) : Int)), .ref q1, .ref q2])) :: (q1, .inl (kA 2, 384, .inr (.inl (fun _ => 0)))) :: (q2, .inl (kA 2, 384, .inr (.inl (fun _ => 0)))) :: [])) := by
  refine mk_I (own := 4) (by decide +kernel) rfl (Nat.le_of_ble_eq_true rfl) ?_
  intro p e s m args below meth c A C hA hr
  refine xi_w (w2 := ((h, .inr (3, [.int 0, .null, .null])) :: [])) rfl ?_
  refine xi_aload C 0 0 dX4_init_0 rfl rfl ?_
  refine xi_objInit C dX4_init_1 gi20 (Nat.le_of_ble_eq_true rfl) (Nat.le_of_ble_eq_true rfl) (Nat.le_of_ble_eq_true rfl) ?_
  refine xi_aload C 0 0 dX4_init_4 rfl rfl ?_
  refine xi_iconst C (Int32.ofInt ((0 : Nat) : Int)) dX4_init_5 rfl ?_
  refine xi_put C 0 .int dX4_init_6 rfl rfl (by decide +kernel) rfl rfl rfl (Nat.le_of_ble_eq_true rfl) ?_
  refine xi_w (w2 := ((h, .inr (3, [.int (Int32.ofInt ((0 : Nat) : Int)), .null, .null])) :: [])) rfl ?_
  refine xi_aload C 0 0 dX4_init_9 rfl rfl ?_
  refine xi_sipush C (Int32.ofInt ((384 : Nat) : Int)) dX4_init_10 rfl ?_
  refine xi_newJ C 384 dX4_init_13 (i_nn (a := 384) (by decide)) (i_cl (a := 384) (by decide)) (Nat.le_of_ble_eq_true rfl) (Nat.le_of_ble_eq_true rfl) (Nat.le_of_ble_eq_true rfl) (fun q1 => ?_)
  refine xi_w (w2 := ((h, .inr (3, [.int (Int32.ofInt ((0 : Nat) : Int)), .null, .null])) :: (q1, .inl (kA 2, 384, .inr (.inl (fun _ => 0)))) :: [])) rfl ?_
  refine xi_putF C 0 (.array .long) dX4_init_15 rfl rfl (by decide +kernel) rfl rfl rfl rfl (Nat.le_of_ble_eq_true rfl) ?_
  refine xi_w (w2 := ((h, .inr (3, [.int (Int32.ofInt ((0 : Nat) : Int)), .ref q1, .null])) :: (q1, .inl (kA 2, 384, .inr (.inl (fun _ => 0)))) :: [])) rfl ?_
  refine xi_aload C 0 0 dX4_init_18 rfl rfl ?_
  refine xi_sipush C (Int32.ofInt ((384 : Nat) : Int)) dX4_init_19 rfl ?_
  refine xi_newJ C 384 dX4_init_22 (i_nn (a := 384) (by decide)) (i_cl (a := 384) (by decide)) (Nat.le_of_ble_eq_true rfl) (Nat.le_of_ble_eq_true rfl) (Nat.le_of_ble_eq_true rfl) (fun q2 => ?_)
  refine xi_w (w2 := ((h, .inr (3, [.int (Int32.ofInt ((0 : Nat) : Int)), .ref q1, .null])) :: (q1, .inl (kA 2, 384, .inr (.inl (fun _ => 0)))) :: (q2, .inl (kA 2, 384, .inr (.inl (fun _ => 0)))) :: [])) rfl ?_
  refine xi_putF C 0 (.array .long) dX4_init_24 rfl rfl (by decide +kernel) rfl rfl rfl rfl (Nat.le_of_ble_eq_true rfl) ?_
  refine xi_w (w2 := ((h, .inr (3, [.int (Int32.ofInt ((0 : Nat) : Int)), .ref q1, .ref q2])) :: (q1, .inl (kA 2, 384, .inr (.inl (fun _ => 0)))) :: (q2, .inl (kA 2, 384, .inr (.inl (fun _ => 0)))) :: [])) rfl ?_
  exact xi_return C hA hr dX4_init_27 (Nat.le_of_ble_eq_true rfl) (Nat.le_of_ble_eq_true rfl) ⟨q1, q2, rfl⟩

set_option maxRecDepth 100000 in
set_option maxHeartbeats 4000000 in
theorem i_X7 {l : Launch} {D : va_G} {kA : Nat → ClassId} (h : Nat) : CtI l D kA yX7_init cX7_init 1 0 [.ref h] [(h, .inr (6, dflV 6))] 4 2803 (fun w1 => ∃ q1 : Nat, ∃ q2 : Nat, ∃ q3 : Nat, ∃ q4 : Nat, w1 = ((h, .inr (6, [.ref q1, .ref q2, .ref q3, .ref q4, .int (Int32.ofInt ((0 : Nat) : Int)), .int (Int32.ofInt ((0 : Nat) : Int)), .int (Int32.ofInt ((0 : Nat) : Int))])) :: (q1, .inl (kA 1, 700, .inl (fun _ => 0))) :: (q2, .inl (kA 1, 701, .inl (fun _ => 0))) :: (q3, .inl (kA 1, 701, .inl (fun _ => 0))) :: (q4, .inl (kA 1, 701, .inl (fun _ => 0))) :: [])) := by
  refine mk_I (own := 7) (by decide +kernel) rfl (Nat.le_of_ble_eq_true rfl) ?_
  intro p e s m args below meth c A C hA hr
  refine xi_w (w2 := ((h, .inr (6, [.null, .null, .null, .null, .int 0, .int 0, .int 0])) :: [])) rfl ?_
  refine xi_aload C 0 0 dX7_init_0 rfl rfl ?_
  refine xi_objInit C dX7_init_1 gi37 (Nat.le_of_ble_eq_true rfl) (Nat.le_of_ble_eq_true rfl) (Nat.le_of_ble_eq_true rfl) ?_
  refine xi_aload C 0 0 dX7_init_4 rfl rfl ?_
  refine xi_sipush C (Int32.ofInt ((700 : Nat) : Int)) dX7_init_5 rfl ?_
  refine xi_newI C 700 dX7_init_8 (i_nn (a := 700) (by decide)) (i_cl (a := 700) (by decide)) (Nat.le_of_ble_eq_true rfl) (Nat.le_of_ble_eq_true rfl) (Nat.le_of_ble_eq_true rfl) (fun q1 => ?_)
  refine xi_w (w2 := ((h, .inr (6, [.null, .null, .null, .null, .int 0, .int 0, .int 0])) :: (q1, .inl (kA 1, 700, .inl (fun _ => 0))) :: [])) rfl ?_
  refine xi_putF C 0 (.array .int) dX7_init_10 rfl rfl (by decide +kernel) rfl rfl rfl rfl (Nat.le_of_ble_eq_true rfl) ?_
  refine xi_w (w2 := ((h, .inr (6, [.ref q1, .null, .null, .null, .int 0, .int 0, .int 0])) :: (q1, .inl (kA 1, 700, .inl (fun _ => 0))) :: [])) rfl ?_
  refine xi_aload C 0 0 dX7_init_13 rfl rfl ?_
  refine xi_sipush C (Int32.ofInt ((701 : Nat) : Int)) dX7_init_14 rfl ?_
  refine xi_newI C 701 dX7_init_17 (i_nn (a := 701) (by decide)) (i_cl (a := 701) (by decide)) (Nat.le_of_ble_eq_true rfl) (Nat.le_of_ble_eq_true rfl) (Nat.le_of_ble_eq_true rfl) (fun q2 => ?_)
  refine xi_w (w2 := ((h, .inr (6, [.ref q1, .null, .null, .null, .int 0, .int 0, .int 0])) :: (q1, .inl (kA 1, 700, .inl (fun _ => 0))) :: (q2, .inl (kA 1, 701, .inl (fun _ => 0))) :: [])) rfl ?_
  refine xi_putF C 0 (.array .int) dX7_init_19 rfl rfl (by decide +kernel) rfl rfl rfl rfl (Nat.le_of_ble_eq_true rfl) ?_
  refine xi_w (w2 := ((h, .inr (6, [.ref q1, .ref q2, .null, .null, .int 0, .int 0, .int 0])) :: (q1, .inl (kA 1, 700, .inl (fun _ => 0))) :: (q2, .inl (kA 1, 701, .inl (fun _ => 0))) :: [])) rfl ?_
  refine xi_aload C 0 0 dX7_init_22 rfl rfl ?_
  refine xi_sipush C (Int32.ofInt ((701 : Nat) : Int)) dX7_init_23 rfl ?_
  refine xi_newI C 701 dX7_init_26 (i_nn (a := 701) (by decide)) (i_cl (a := 701) (by decide)) (Nat.le_of_ble_eq_true rfl) (Nat.le_of_ble_eq_true rfl) (Nat.le_of_ble_eq_true rfl) (fun q3 => ?_)
  refine xi_w (w2 := ((h, .inr (6, [.ref q1, .ref q2, .null, .null, .int 0, .int 0, .int 0])) :: (q1, .inl (kA 1, 700, .inl (fun _ => 0))) :: (q2, .inl (kA 1, 701, .inl (fun _ => 0))) :: (q3, .inl (kA 1, 701, .inl (fun _ => 0))) :: [])) rfl ?_
  refine xi_putF C 0 (.array .int) dX7_init_28 rfl rfl (by decide +kernel) rfl rfl rfl rfl (Nat.le_of_ble_eq_true rfl) ?_
  refine xi_w (w2 := ((h, .inr (6, [.ref q1, .ref q2, .ref q3, .null, .int 0, .int 0, .int 0])) :: (q1, .inl (kA 1, 700, .inl (fun _ => 0))) :: (q2, .inl (kA 1, 701, .inl (fun _ => 0))) :: (q3, .inl (kA 1, 701, .inl (fun _ => 0))) :: [])) rfl ?_
  refine xi_aload C 0 0 dX7_init_31 rfl rfl ?_
  refine xi_sipush C (Int32.ofInt ((701 : Nat) : Int)) dX7_init_32 rfl ?_
  refine xi_newI C 701 dX7_init_35 (i_nn (a := 701) (by decide)) (i_cl (a := 701) (by decide)) (Nat.le_of_ble_eq_true rfl) (Nat.le_of_ble_eq_true rfl) (Nat.le_of_ble_eq_true rfl) (fun q4 => ?_)
  refine xi_w (w2 := ((h, .inr (6, [.ref q1, .ref q2, .ref q3, .null, .int 0, .int 0, .int 0])) :: (q1, .inl (kA 1, 700, .inl (fun _ => 0))) :: (q2, .inl (kA 1, 701, .inl (fun _ => 0))) :: (q3, .inl (kA 1, 701, .inl (fun _ => 0))) :: (q4, .inl (kA 1, 701, .inl (fun _ => 0))) :: [])) rfl ?_
  refine xi_putF C 0 (.array .int) dX7_init_37 rfl rfl (by decide +kernel) rfl rfl rfl rfl (Nat.le_of_ble_eq_true rfl) ?_
  refine xi_w (w2 := ((h, .inr (6, [.ref q1, .ref q2, .ref q3, .ref q4, .int 0, .int 0, .int 0])) :: (q1, .inl (kA 1, 700, .inl (fun _ => 0))) :: (q2, .inl (kA 1, 701, .inl (fun _ => 0))) :: (q3, .inl (kA 1, 701, .inl (fun _ => 0))) :: (q4, .inl (kA 1, 701, .inl (fun _ => 0))) :: [])) rfl ?_
  refine xi_aload C 0 0 dX7_init_40 rfl rfl ?_
  refine xi_iconst C (Int32.ofInt ((0 : Nat) : Int)) dX7_init_41 rfl ?_
  refine xi_put C 0 .int dX7_init_42 rfl rfl (by decide +kernel) rfl rfl rfl (Nat.le_of_ble_eq_true rfl) ?_
  refine xi_w (w2 := ((h, .inr (6, [.ref q1, .ref q2, .ref q3, .ref q4, .int (Int32.ofInt ((0 : Nat) : Int)), .int 0, .int 0])) :: (q1, .inl (kA 1, 700, .inl (fun _ => 0))) :: (q2, .inl (kA 1, 701, .inl (fun _ => 0))) :: (q3, .inl (kA 1, 701, .inl (fun _ => 0))) :: (q4, .inl (kA 1, 701, .inl (fun _ => 0))) :: [])) rfl ?_
  refine xi_aload C 0 0 dX7_init_45 rfl rfl ?_
  refine xi_iconst C (Int32.ofInt ((0 : Nat) : Int)) dX7_init_46 rfl ?_
  refine xi_put C 0 .int dX7_init_47 rfl rfl (by decide +kernel) rfl rfl rfl (Nat.le_of_ble_eq_true rfl) ?_
  refine xi_w (w2 := ((h, .inr (6, [.ref q1, .ref q2, .ref q3, .ref q4, .int (Int32.ofInt ((0 : Nat) : Int)), .int (Int32.ofInt ((0 : Nat) : Int)), .int 0])) :: (q1, .inl (kA 1, 700, .inl (fun _ => 0))) :: (q2, .inl (kA 1, 701, .inl (fun _ => 0))) :: (q3, .inl (kA 1, 701, .inl (fun _ => 0))) :: (q4, .inl (kA 1, 701, .inl (fun _ => 0))) :: [])) rfl ?_
  refine xi_aload C 0 0 dX7_init_50 rfl rfl ?_
  refine xi_iconst C (Int32.ofInt ((0 : Nat) : Int)) dX7_init_51 rfl ?_
  refine xi_put C 0 .int dX7_init_52 rfl rfl (by decide +kernel) rfl rfl rfl (Nat.le_of_ble_eq_true rfl) ?_
  refine xi_w (w2 := ((h, .inr (6, [.ref q1, .ref q2, .ref q3, .ref q4, .int (Int32.ofInt ((0 : Nat) : Int)), .int (Int32.ofInt ((0 : Nat) : Int)), .int (Int32.ofInt ((0 : Nat) : Int))])) :: (q1, .inl (kA 1, 700, .inl (fun _ => 0))) :: (q2, .inl (kA 1, 701, .inl (fun _ => 0))) :: (q3, .inl (kA 1, 701, .inl (fun _ => 0))) :: (q4, .inl (kA 1, 701, .inl (fun _ => 0))) :: [])) rfl ?_
  exact xi_return C hA hr dX7_init_55 (Nat.le_of_ble_eq_true rfl) (Nat.le_of_ble_eq_true rfl) ⟨q1, q2, q3, q4, rfl⟩

set_option maxRecDepth 100000 in
set_option maxHeartbeats 4000000 in
theorem i_X1 {l : Launch} {D : va_G} {kA : Nat → ClassId} (h : Nat) : CtI l D kA yX1_init cX1_init 1 1 [.ref h] [(h, .inr (1, dflV 1))] 1 25 (fun w1 => ∃ q1 : Nat, ∃ f2 : Nat → Int64, (∀ j, j < 25 → f2 j = 1) ∧ w1 = ((h, .inr (1, [.ref q1])) :: (q1, .inl (kA 2, 25, .inr (.inl f2))) :: [])) := by
  refine mk_I (own := 1) (by decide +kernel) rfl (Nat.le_of_ble_eq_true rfl) ?_
  intro p e s m args below meth c A C hA hr
  refine xi_w (w2 := ((h, .inr (1, [.null])) :: [])) rfl ?_
  refine xi_aload C 0 0 dX1_init_0 rfl rfl ?_
  refine xi_objInit C dX1_init_1 gi10 (Nat.le_of_ble_eq_true rfl) (Nat.le_of_ble_eq_true rfl) (Nat.le_of_ble_eq_true rfl) ?_
  refine xi_aload C 0 0 dX1_init_4 rfl rfl ?_
  refine xi_bipush C (Int32.ofInt ((25 : Nat) : Int)) dX1_init_5 rfl ?_
  refine xi_newJ C 25 dX1_init_7 (i_nn (a := 25) (by decide)) (i_cl (a := 25) (by decide)) (Nat.le_of_ble_eq_true rfl) (Nat.le_of_ble_eq_true rfl) (Nat.le_of_ble_eq_true rfl) (fun q1 => ?_)
  refine xi_w (w2 := ((h, .inr (1, [.null])) :: (q1, .inl (kA 2, 25, .inr (.inl (fun _ => 0)))) :: [])) rfl ?_
  refine xi_putF C 0 (.array .long) dX1_init_9 rfl rfl (by decide +kernel) rfl rfl rfl rfl (Nat.le_of_ble_eq_true rfl) ?_
  refine xi_w (w2 := ((h, .inr (1, [.ref q1])) :: (q1, .inl (kA 2, 25, .inr (.inl (fun _ => 0)))) :: [])) rfl ?_
  refine xi_aload C 0 0 dX1_init_12 rfl rfl ?_
  refine xi_get C 0 dX1_init_13 rfl rfl rfl ?_
  refine xi_lconst C 1 dX1_init_16 rfl ?_
  refine xi_callS (As := [.ref q1, .long 1]) (wr := ((h, .inr (1, [.ref q1])) :: [])) (na := 2) C dX1_init_17 rfl rfl (i_fill (Nat.le_of_ble_eq_true rfl)) rfl (Nat.le_of_ble_eq_true rfl) (Nat.le_of_ble_eq_true rfl) (Nat.le_of_ble_eq_true rfl) (Nat.le_of_ble_eq_true rfl) (Nat.le_of_ble_eq_true rfl) (fun w1 hw1 => ?_)
  obtain ⟨f2, p1, rfl⟩ := hw1
  refine xi_w (w2 := ((h, .inr (1, [.ref q1])) :: (q1, .inl (kA 2, 25, .inr (.inl f2))) :: [])) rfl ?_
  exact xi_return C hA hr dX1_init_20 (Nat.le_of_ble_eq_true rfl) (Nat.le_of_ble_eq_true rfl) ⟨q1, f2, p1, rfl⟩

set_option maxRecDepth 100000 in
set_option maxHeartbeats 4000000 in
theorem i_X8 {l : Launch} {D : va_G} {kA : Nat → ClassId} (h : Nat) : CtI l D kA yX8_init cX8_init 1 2 [.ref h] [(h, .inr (7, dflV 7))] 6 178 (fun w1 => ∃ q1 : Nat, ∃ q2 : Nat, ∃ f3 : Nat → Int64, ∃ q4 : Nat, ∃ q5 : Nat, ∃ q6 : Nat, ∃ q7 : Nat, (∀ j, j < 25 → f3 j = 1) ∧ w1 = ((h, .inr (7, [.int (Int32.ofInt ((0 : Nat) : Int)), .int (Int32.ofInt ((0 : Nat) : Int)), .int (Int32.ofInt ((0 : Nat) : Int)), .int (Int32.ofInt ((0 : Nat) : Int)), .ref q1, .ref q4, .ref q5, .ref q6, .ref q7])) :: (q1, .inr (1, [.ref q2])) :: (q2, .inl (kA 2, 25, .inr (.inl f3))) :: (q4, .inl (kA 1, 8, .inl (fun _ => 0))) :: (q5, .inl (kA 1, 40, .inl (fun _ => 0))) :: (q6, .inl (kA 1, 96, .inl (fun _ => 0))) :: (q7, .inl (kA 1, 8, .inl (fun _ => 0))) :: [])) := by
  refine mk_I (own := 8) (by decide +kernel) rfl (Nat.le_of_ble_eq_true rfl) ?_
  intro p e s m args below meth c A C hA hr
  refine xi_w (w2 := ((h, .inr (7, [.int 0, .int 0, .int 0, .int 0, .null, .null, .null, .null, .null])) :: [])) rfl ?_
  refine xi_aload C 0 0 dX8_init_0 rfl rfl ?_
  refine xi_objInit C dX8_init_1 gi42 (Nat.le_of_ble_eq_true rfl) (Nat.le_of_ble_eq_true rfl) (Nat.le_of_ble_eq_true rfl) ?_
  refine xi_aload C 0 0 dX8_init_4 rfl rfl ?_
  refine xi_iconst C (Int32.ofInt ((0 : Nat) : Int)) dX8_init_5 rfl ?_
  refine xi_put C 0 .int dX8_init_6 rfl rfl (by decide +kernel) rfl rfl rfl (Nat.le_of_ble_eq_true rfl) ?_
  refine xi_w (w2 := ((h, .inr (7, [.int (Int32.ofInt ((0 : Nat) : Int)), .int 0, .int 0, .int 0, .null, .null, .null, .null, .null])) :: [])) rfl ?_
  refine xi_aload C 0 0 dX8_init_9 rfl rfl ?_
  refine xi_iconst C (Int32.ofInt ((0 : Nat) : Int)) dX8_init_10 rfl ?_
  refine xi_put C 0 .int dX8_init_11 rfl rfl (by decide +kernel) rfl rfl rfl (Nat.le_of_ble_eq_true rfl) ?_
  refine xi_w (w2 := ((h, .inr (7, [.int (Int32.ofInt ((0 : Nat) : Int)), .int (Int32.ofInt ((0 : Nat) : Int)), .int 0, .int 0, .null, .null, .null, .null, .null])) :: [])) rfl ?_
  refine xi_aload C 0 0 dX8_init_14 rfl rfl ?_
  refine xi_iconst C (Int32.ofInt ((0 : Nat) : Int)) dX8_init_15 rfl ?_
  refine xi_put C 0 .int dX8_init_16 rfl rfl (by decide +kernel) rfl rfl rfl (Nat.le_of_ble_eq_true rfl) ?_
  refine xi_w (w2 := ((h, .inr (7, [.int (Int32.ofInt ((0 : Nat) : Int)), .int (Int32.ofInt ((0 : Nat) : Int)), .int (Int32.ofInt ((0 : Nat) : Int)), .int 0, .null, .null, .null, .null, .null])) :: [])) rfl ?_
  refine xi_aload C 0 0 dX8_init_19 rfl rfl ?_
  refine xi_iconst C (Int32.ofInt ((0 : Nat) : Int)) dX8_init_20 rfl ?_
  refine xi_put C 0 .int dX8_init_21 rfl rfl (by decide +kernel) rfl rfl rfl (Nat.le_of_ble_eq_true rfl) ?_
  refine xi_w (w2 := ((h, .inr (7, [.int (Int32.ofInt ((0 : Nat) : Int)), .int (Int32.ofInt ((0 : Nat) : Int)), .int (Int32.ofInt ((0 : Nat) : Int)), .int (Int32.ofInt ((0 : Nat) : Int)), .null, .null, .null, .null, .null])) :: [])) rfl ?_
  refine xi_aload C 0 0 dX8_init_24 rfl rfl ?_
  refine xi_new (ci := 1) (C9 := RX1) (N9 := 1) C rfl rfl dX8_init_25 (by decide) gi44 gi11 gi12 (Nat.le_of_ble_eq_true rfl) (Nat.le_of_ble_eq_true rfl) (fun q1 => ?_)
  refine xi_w (w2 := ((h, .inr (7, [.int (Int32.ofInt ((0 : Nat) : Int)), .int (Int32.ofInt ((0 : Nat) : Int)), .int (Int32.ofInt ((0 : Nat) : Int)), .int (Int32.ofInt ((0 : Nat) : Int)), .null, .null, .null, .null, .null])) :: (q1, .inr (1, dflV 1)) :: [])) rfl ?_
  refine xi_dup C dX8_init_28 rfl ?_
  refine xi_callI (As := []) (wr := ((h, .inr (7, [.int (Int32.ofInt ((0 : Nat) : Int)), .int (Int32.ofInt ((0 : Nat) : Int)), .int (Int32.ofInt ((0 : Nat) : Int)), .int (Int32.ofInt ((0 : Nat) : Int)), .null, .null, .null, .null, .null])) :: [])) (wc := ((q1, .inr (1, dflV 1)) :: [])) (S := [.ref q1, .ref h]) (na := 0) C dX8_init_29 (i_X1 q1) rfl gi43 gi13 gi14 gi12 ⟨by decide, by decide, rfl⟩ rfl (by exact Nat.le_of_ble_eq_true rfl) (by exact Nat.le_of_ble_eq_true rfl) (by exact Nat.le_of_ble_eq_true rfl) (by exact Nat.le_of_ble_eq_true rfl) (by exact Nat.le_of_ble_eq_true rfl) (fun w1 hw1 => ?_)
  obtain ⟨q2, f3, p1, rfl⟩ := hw1
  refine xi_w (w2 := ((h, .inr (7, [.int (Int32.ofInt ((0 : Nat) : Int)), .int (Int32.ofInt ((0 : Nat) : Int)), .int (Int32.ofInt ((0 : Nat) : Int)), .int (Int32.ofInt ((0 : Nat) : Int)), .null, .null, .null, .null, .null])) :: (q1, .inr (1, [.ref q2])) :: (q2, .inl (kA 2, 25, .inr (.inl f3))) :: [])) rfl ?_
  refine xi_putF C 0 (.object "PrimeCoins$Debts") dX8_init_32 rfl rfl (by decide +kernel) rfl rfl rfl rfl (Nat.le_of_ble_eq_true rfl) ?_
  refine xi_w (w2 := ((h, .inr (7, [.int (Int32.ofInt ((0 : Nat) : Int)), .int (Int32.ofInt ((0 : Nat) : Int)), .int (Int32.ofInt ((0 : Nat) : Int)), .int (Int32.ofInt ((0 : Nat) : Int)), .ref q1, .null, .null, .null, .null])) :: (q1, .inr (1, [.ref q2])) :: (q2, .inl (kA 2, 25, .inr (.inl f3))) :: [])) rfl ?_
  refine xi_aload C 0 0 dX8_init_35 rfl rfl ?_
  refine xi_bipush C (Int32.ofInt ((8 : Nat) : Int)) dX8_init_36 rfl ?_
  refine xi_newI C 8 dX8_init_38 (i_nn (a := 8) (by decide)) (i_cl (a := 8) (by decide)) (Nat.le_of_ble_eq_true rfl) (Nat.le_of_ble_eq_true rfl) (Nat.le_of_ble_eq_true rfl) (fun q4 => ?_)
  refine xi_w (w2 := ((h, .inr (7, [.int (Int32.ofInt ((0 : Nat) : Int)), .int (Int32.ofInt ((0 : Nat) : Int)), .int (Int32.ofInt ((0 : Nat) : Int)), .int (Int32.ofInt ((0 : Nat) : Int)), .ref q1, .null, .null, .null, .null])) :: (q1, .inr (1, [.ref q2])) :: (q2, .inl (kA 2, 25, .inr (.inl f3))) :: (q4, .inl (kA 1, 8, .inl (fun _ => 0))) :: [])) rfl ?_
  refine xi_putF C 0 (.array .int) dX8_init_40 rfl rfl (by decide +kernel) rfl rfl rfl rfl (Nat.le_of_ble_eq_true rfl) ?_
  refine xi_w (w2 := ((h, .inr (7, [.int (Int32.ofInt ((0 : Nat) : Int)), .int (Int32.ofInt ((0 : Nat) : Int)), .int (Int32.ofInt ((0 : Nat) : Int)), .int (Int32.ofInt ((0 : Nat) : Int)), .ref q1, .ref q4, .null, .null, .null])) :: (q1, .inr (1, [.ref q2])) :: (q2, .inl (kA 2, 25, .inr (.inl f3))) :: (q4, .inl (kA 1, 8, .inl (fun _ => 0))) :: [])) rfl ?_
  refine xi_aload C 0 0 dX8_init_43 rfl rfl ?_
  refine xi_bipush C (Int32.ofInt ((40 : Nat) : Int)) dX8_init_44 rfl ?_
  refine xi_newI C 40 dX8_init_46 (i_nn (a := 40) (by decide)) (i_cl (a := 40) (by decide)) (Nat.le_of_ble_eq_true rfl) (Nat.le_of_ble_eq_true rfl) (Nat.le_of_ble_eq_true rfl) (fun q5 => ?_)
  refine xi_w (w2 := ((h, .inr (7, [.int (Int32.ofInt ((0 : Nat) : Int)), .int (Int32.ofInt ((0 : Nat) : Int)), .int (Int32.ofInt ((0 : Nat) : Int)), .int (Int32.ofInt ((0 : Nat) : Int)), .ref q1, .ref q4, .null, .null, .null])) :: (q1, .inr (1, [.ref q2])) :: (q2, .inl (kA 2, 25, .inr (.inl f3))) :: (q4, .inl (kA 1, 8, .inl (fun _ => 0))) :: (q5, .inl (kA 1, 40, .inl (fun _ => 0))) :: [])) rfl ?_
  refine xi_putF C 0 (.array .int) dX8_init_48 rfl rfl (by decide +kernel) rfl rfl rfl rfl (Nat.le_of_ble_eq_true rfl) ?_
  refine xi_w (w2 := ((h, .inr (7, [.int (Int32.ofInt ((0 : Nat) : Int)), .int (Int32.ofInt ((0 : Nat) : Int)), .int (Int32.ofInt ((0 : Nat) : Int)), .int (Int32.ofInt ((0 : Nat) : Int)), .ref q1, .ref q4, .ref q5, .null, .null])) :: (q1, .inr (1, [.ref q2])) :: (q2, .inl (kA 2, 25, .inr (.inl f3))) :: (q4, .inl (kA 1, 8, .inl (fun _ => 0))) :: (q5, .inl (kA 1, 40, .inl (fun _ => 0))) :: [])) rfl ?_
  refine xi_aload C 0 0 dX8_init_51 rfl rfl ?_
  refine xi_bipush C (Int32.ofInt ((96 : Nat) : Int)) dX8_init_52 rfl ?_
  refine xi_newI C 96 dX8_init_54 (i_nn (a := 96) (by decide)) (i_cl (a := 96) (by decide)) (Nat.le_of_ble_eq_true rfl) (Nat.le_of_ble_eq_true rfl) (Nat.le_of_ble_eq_true rfl) (fun q6 => ?_)
  refine xi_w (w2 := ((h, .inr (7, [.int (Int32.ofInt ((0 : Nat) : Int)), .int (Int32.ofInt ((0 : Nat) : Int)), .int (Int32.ofInt ((0 : Nat) : Int)), .int (Int32.ofInt ((0 : Nat) : Int)), .ref q1, .ref q4, .ref q5, .null, .null])) :: (q1, .inr (1, [.ref q2])) :: (q2, .inl (kA 2, 25, .inr (.inl f3))) :: (q4, .inl (kA 1, 8, .inl (fun _ => 0))) :: (q5, .inl (kA 1, 40, .inl (fun _ => 0))) :: (q6, .inl (kA 1, 96, .inl (fun _ => 0))) :: [])) rfl ?_
  refine xi_putF C 0 (.array .int) dX8_init_56 rfl rfl (by decide +kernel) rfl rfl rfl rfl (Nat.le_of_ble_eq_true rfl) ?_
  refine xi_w (w2 := ((h, .inr (7, [.int (Int32.ofInt ((0 : Nat) : Int)), .int (Int32.ofInt ((0 : Nat) : Int)), .int (Int32.ofInt ((0 : Nat) : Int)), .int (Int32.ofInt ((0 : Nat) : Int)), .ref q1, .ref q4, .ref q5, .ref q6, .null])) :: (q1, .inr (1, [.ref q2])) :: (q2, .inl (kA 2, 25, .inr (.inl f3))) :: (q4, .inl (kA 1, 8, .inl (fun _ => 0))) :: (q5, .inl (kA 1, 40, .inl (fun _ => 0))) :: (q6, .inl (kA 1, 96, .inl (fun _ => 0))) :: [])) rfl ?_
  refine xi_aload C 0 0 dX8_init_59 rfl rfl ?_
  refine xi_bipush C (Int32.ofInt ((8 : Nat) : Int)) dX8_init_60 rfl ?_
  refine xi_newI C 8 dX8_init_62 (i_nn (a := 8) (by decide)) (i_cl (a := 8) (by decide)) (Nat.le_of_ble_eq_true rfl) (Nat.le_of_ble_eq_true rfl) (Nat.le_of_ble_eq_true rfl) (fun q7 => ?_)
  refine xi_w (w2 := ((h, .inr (7, [.int (Int32.ofInt ((0 : Nat) : Int)), .int (Int32.ofInt ((0 : Nat) : Int)), .int (Int32.ofInt ((0 : Nat) : Int)), .int (Int32.ofInt ((0 : Nat) : Int)), .ref q1, .ref q4, .ref q5, .ref q6, .null])) :: (q1, .inr (1, [.ref q2])) :: (q2, .inl (kA 2, 25, .inr (.inl f3))) :: (q4, .inl (kA 1, 8, .inl (fun _ => 0))) :: (q5, .inl (kA 1, 40, .inl (fun _ => 0))) :: (q6, .inl (kA 1, 96, .inl (fun _ => 0))) :: (q7, .inl (kA 1, 8, .inl (fun _ => 0))) :: [])) rfl ?_
  refine xi_putF C 0 (.array .int) dX8_init_64 rfl rfl (by decide +kernel) rfl rfl rfl rfl (Nat.le_of_ble_eq_true rfl) ?_
  refine xi_w (w2 := ((h, .inr (7, [.int (Int32.ofInt ((0 : Nat) : Int)), .int (Int32.ofInt ((0 : Nat) : Int)), .int (Int32.ofInt ((0 : Nat) : Int)), .int (Int32.ofInt ((0 : Nat) : Int)), .ref q1, .ref q4, .ref q5, .ref q6, .ref q7])) :: (q1, .inr (1, [.ref q2])) :: (q2, .inl (kA 2, 25, .inr (.inl f3))) :: (q4, .inl (kA 1, 8, .inl (fun _ => 0))) :: (q5, .inl (kA 1, 40, .inl (fun _ => 0))) :: (q6, .inl (kA 1, 96, .inl (fun _ => 0))) :: (q7, .inl (kA 1, 8, .inl (fun _ => 0))) :: [])) rfl ?_
  exact xi_return C hA hr dX8_init_67 (Nat.le_of_ble_eq_true rfl) (Nat.le_of_ble_eq_true rfl) ⟨q1, q2, f3, q4, q5, q6, q7, p1, rfl⟩

set_option maxRecDepth 100000 in
set_option maxHeartbeats 4000000 in
theorem i_X5 {l : Launch} {D : va_G} {kA : Nat → ClassId} (h : Nat) : CtI l D kA yX5_init cX5_init 1 3 [.ref h] [(h, .inr (4, dflV 4))] 12 2997 (fun w1 => ∃ q1 : Nat, ∃ q2 : Nat, ∃ q3 : Nat, ∃ f4 : Nat → Int64, ∃ q5 : Nat, ∃ q6 : Nat, ∃ q7 : Nat, ∃ q8 : Nat, ∃ q9 : Nat, ∃ q10 : Nat, ∃ q11 : Nat, ∃ q12 : Nat, ∃ q13 : Nat, (∀ j, j < 25 → f4 j = 1) ∧ w1 = ((h, .inr (4, [.int (Int32.ofInt ((0 : Nat) : Int)), .int (-1), .ref q1, .ref q9, .int (Int32.ofInt ((0 : Nat) : Int))])) :: (q1, .inr (7, [.int (Int32.ofInt ((0 : Nat) : Int)), .int (Int32.ofInt ((0 : Nat) : Int)), .int (Int32.ofInt ((0 : Nat) : Int)), .int (Int32.ofInt ((0 : Nat) : Int)), .ref q2, .ref q5, .ref q6, .ref q7, .ref q8])) :: (q2, .inr (1, [.ref q3])) :: (q3, .inl (kA 2, 25, .inr (.inl f4))) :: (q5, .inl (kA 1, 8, .inl (fun _ => 0))) :: (q6, .inl (kA 1, 40, .inl (fun _ => 0))) :: (q7, .inl (kA 1, 96, .inl (fun _ => 0))) :: (q8, .inl (kA 1, 8, .inl (fun _ => 0))) :: (q9, .inr (6, [.ref q10, .ref q11, .ref q12, .ref q13, .int (Int32.ofInt ((0 : Nat) : Int)), .int (Int32.ofInt ((0 : Nat) : Int)), .int (Int32.ofInt ((0 : Nat) : Int))])) :: (q10, .inl (kA 1, 700, .inl (fun _ => 0))) :: (q11, .inl (kA 1, 701, .inl (fun _ => 0))) :: (q12, .inl (kA 1, 701, .inl (fun _ => 0))) :: (q13, .inl (kA 1, 701, .inl (fun _ => 0))) :: [])) := by
  refine mk_I (own := 5) (by decide +kernel) rfl (Nat.le_of_ble_eq_true rfl) ?_
  intro p e s m args below meth c A C hA hr
  refine xi_w (w2 := ((h, .inr (4, [.int 0, .int 0, .null, .null, .int 0])) :: [])) rfl ?_
  refine xi_aload C 0 0 dX5_init_0 rfl rfl ?_
  refine xi_objInit C dX5_init_1 gi25 (Nat.le_of_ble_eq_true rfl) (Nat.le_of_ble_eq_true rfl) (Nat.le_of_ble_eq_true rfl) ?_
  refine xi_aload C 0 0 dX5_init_4 rfl rfl ?_
  refine xi_iconst C (Int32.ofInt ((0 : Nat) : Int)) dX5_init_5 rfl ?_
  refine xi_put C 0 .int dX5_init_6 rfl rfl (by decide +kernel) rfl rfl rfl (Nat.le_of_ble_eq_true rfl) ?_
  refine xi_w (w2 := ((h, .inr (4, [.int (Int32.ofInt ((0 : Nat) : Int)), .int 0, .null, .null, .int 0])) :: [])) rfl ?_
  refine xi_aload C 0 0 dX5_init_9 rfl rfl ?_
  refine xi_iconst C (-1) dX5_init_10 rfl ?_
  refine xi_put C 0 .int dX5_init_11 rfl rfl (by decide +kernel) rfl rfl rfl (Nat.le_of_ble_eq_true rfl) ?_
  refine xi_w (w2 := ((h, .inr (4, [.int (Int32.ofInt ((0 : Nat) : Int)), .int (-1), .null, .null, .int 0])) :: [])) rfl ?_
  refine xi_aload C 0 0 dX5_init_14 rfl rfl ?_
  refine xi_new (ci := 7) (C9 := RX8) (N9 := 9) C rfl rfl dX5_init_15 (by decide) gi26 gi45 gi46 (Nat.le_of_ble_eq_true rfl) (Nat.le_of_ble_eq_true rfl) (fun q1 => ?_)
  refine xi_w (w2 := ((h, .inr (4, [.int (Int32.ofInt ((0 : Nat) : Int)), .int (-1), .null, .null, .int 0])) :: (q1, .inr (7, dflV 7)) :: [])) rfl ?_
  refine xi_dup C dX5_init_18 rfl ?_
  refine xi_callN (As := []) (wr := ((h, .inr (4, [.int (Int32.ofInt ((0 : Nat) : Int)), .int (-1), .null, .null, .int 0])) :: [])) (wc := ((q1, .inr (7, dflV 7)) :: [])) (S := [.ref q1, .ref h]) (na := 0) C dX5_init_19 (i_X8 q1) rfl (List.mem_of_getElem? (i := 2) rfl) gi47 gi48 gi46 ⟨by decide, by decide, rfl⟩ rfl (by exact Nat.le_of_ble_eq_true rfl) (by exact Nat.le_of_ble_eq_true rfl) (by exact Nat.le_of_ble_eq_true rfl) (by exact Nat.le_of_ble_eq_true rfl) (by exact Nat.le_of_ble_eq_true rfl) (fun w1 hw1 => ?_)
  obtain ⟨q2, q3, f4, q5, q6, q7, q8, p1, rfl⟩ := hw1
  refine xi_w (w2 := ((h, .inr (4, [.int (Int32.ofInt ((0 : Nat) : Int)), .int (-1), .null, .null, .int 0])) :: (q1, .inr (7, [.int (Int32.ofInt ((0 : Nat) : Int)), .int (Int32.ofInt ((0 : Nat) : Int)), .int (Int32.ofInt ((0 : Nat) : Int)), .int (Int32.ofInt ((0 : Nat) : Int)), .ref q2, .ref q5, .ref q6, .ref q7, .ref q8])) :: (q2, .inr (1, [.ref q3])) :: (q3, .inl (kA 2, 25, .inr (.inl f4))) :: (q5, .inl (kA 1, 8, .inl (fun _ => 0))) :: (q6, .inl (kA 1, 40, .inl (fun _ => 0))) :: (q7, .inl (kA 1, 96, .inl (fun _ => 0))) :: (q8, .inl (kA 1, 8, .inl (fun _ => 0))) :: [])) rfl ?_
  refine xi_putF C 0 (.object "PrimeCoins$Town") dX5_init_22 rfl rfl (by decide +kernel) rfl rfl rfl rfl (Nat.le_of_ble_eq_true rfl) ?_
  refine xi_w (w2 := ((h, .inr (4, [.int (Int32.ofInt ((0 : Nat) : Int)), .int (-1), .ref q1, .null, .int 0])) :: (q1, .inr (7, [.int (Int32.ofInt ((0 : Nat) : Int)), .int (Int32.ofInt ((0 : Nat) : Int)), .int (Int32.ofInt ((0 : Nat) : Int)), .int (Int32.ofInt ((0 : Nat) : Int)), .ref q2, .ref q5, .ref q6, .ref q7, .ref q8])) :: (q2, .inr (1, [.ref q3])) :: (q3, .inl (kA 2, 25, .inr (.inl f4))) :: (q5, .inl (kA 1, 8, .inl (fun _ => 0))) :: (q6, .inl (kA 1, 40, .inl (fun _ => 0))) :: (q7, .inl (kA 1, 96, .inl (fun _ => 0))) :: (q8, .inl (kA 1, 8, .inl (fun _ => 0))) :: [])) rfl ?_
  refine xi_aload C 0 0 dX5_init_25 rfl rfl ?_
  refine xi_new (ci := 6) (C9 := RX7) (N9 := 7) C rfl rfl dX5_init_26 (by decide) gi27 gi38 gi39 (Nat.le_of_ble_eq_true rfl) (Nat.le_of_ble_eq_true rfl) (fun q9 => ?_)
  refine xi_w (w2 := ((h, .inr (4, [.int (Int32.ofInt ((0 : Nat) : Int)), .int (-1), .ref q1, .null, .int 0])) :: (q1, .inr (7, [.int (Int32.ofInt ((0 : Nat) : Int)), .int (Int32.ofInt ((0 : Nat) : Int)), .int (Int32.ofInt ((0 : Nat) : Int)), .int (Int32.ofInt ((0 : Nat) : Int)), .ref q2, .ref q5, .ref q6, .ref q7, .ref q8])) :: (q2, .inr (1, [.ref q3])) :: (q3, .inl (kA 2, 25, .inr (.inl f4))) :: (q5, .inl (kA 1, 8, .inl (fun _ => 0))) :: (q6, .inl (kA 1, 40, .inl (fun _ => 0))) :: (q7, .inl (kA 1, 96, .inl (fun _ => 0))) :: (q8, .inl (kA 1, 8, .inl (fun _ => 0))) :: (q9, .inr (6, dflV 6)) :: [])) rfl ?_
  refine xi_dup C dX5_init_29 rfl ?_
  refine xi_callN (As := []) (wr := ((h, .inr (4, [.int (Int32.ofInt ((0 : Nat) : Int)), .int (-1), .ref q1, .null, .int 0])) :: (q1, .inr (7, [.int (Int32.ofInt ((0 : Nat) : Int)), .int (Int32.ofInt ((0 : Nat) : Int)), .int (Int32.ofInt ((0 : Nat) : Int)), .int (Int32.ofInt ((0 : Nat) : Int)), .ref q2, .ref q5, .ref q6, .ref q7, .ref q8])) :: (q2, .inr (1, [.ref q3])) :: (q3, .inl (kA 2, 25, .inr (.inl f4))) :: (q5, .inl (kA 1, 8, .inl (fun _ => 0))) :: (q6, .inl (kA 1, 40, .inl (fun _ => 0))) :: (q7, .inl (kA 1, 96, .inl (fun _ => 0))) :: (q8, .inl (kA 1, 8, .inl (fun _ => 0))) :: [])) (wc := ((q9, .inr (6, dflV 6)) :: [])) (S := [.ref q9, .ref h]) (na := 0) C dX5_init_30 (i_X7 q9) rfl (List.mem_of_getElem? (i := 3) rfl) gi40 gi41 gi39 ⟨by decide, by decide, rfl⟩ rfl (by exact Nat.le_of_ble_eq_true rfl) (by exact Nat.le_of_ble_eq_true rfl) (by exact Nat.le_of_ble_eq_true rfl) (by exact Nat.le_of_ble_eq_true rfl) (by exact Nat.le_of_ble_eq_true rfl) (fun w1 hw1 => ?_)
  obtain ⟨q10, q11, q12, q13, rfl⟩ := hw1
  refine xi_w (w2 := ((h, .inr (4, [.int (Int32.ofInt ((0 : Nat) : Int)), .int (-1), .ref q1, .null, .int 0])) :: (q1, .inr (7, [.int (Int32.ofInt ((0 : Nat) : Int)), .int (Int32.ofInt ((0 : Nat) : Int)), .int (Int32.ofInt ((0 : Nat) : Int)), .int (Int32.ofInt ((0 : Nat) : Int)), .ref q2, .ref q5, .ref q6, .ref q7, .ref q8])) :: (q2, .inr (1, [.ref q3])) :: (q3, .inl (kA 2, 25, .inr (.inl f4))) :: (q5, .inl (kA 1, 8, .inl (fun _ => 0))) :: (q6, .inl (kA 1, 40, .inl (fun _ => 0))) :: (q7, .inl (kA 1, 96, .inl (fun _ => 0))) :: (q8, .inl (kA 1, 8, .inl (fun _ => 0))) :: (q9, .inr (6, [.ref q10, .ref q11, .ref q12, .ref q13, .int (Int32.ofInt ((0 : Nat) : Int)), .int (Int32.ofInt ((0 : Nat) : Int)), .int (Int32.ofInt ((0 : Nat) : Int))])) :: (q10, .inl (kA 1, 700, .inl (fun _ => 0))) :: (q11, .inl (kA 1, 701, .inl (fun _ => 0))) :: (q12, .inl (kA 1, 701, .inl (fun _ => 0))) :: (q13, .inl (kA 1, 701, .inl (fun _ => 0))) :: [])) rfl ?_
  refine xi_putF C 0 (.object "PrimeCoins$Tokens") dX5_init_33 rfl rfl (by decide +kernel) rfl rfl rfl rfl (Nat.le_of_ble_eq_true rfl) ?_
  refine xi_w (w2 := ((h, .inr (4, [.int (Int32.ofInt ((0 : Nat) : Int)), .int (-1), .ref q1, .ref q9, .int 0])) :: (q1, .inr (7, [.int (Int32.ofInt ((0 : Nat) : Int)), .int (Int32.ofInt ((0 : Nat) : Int)), .int (Int32.ofInt ((0 : Nat) : Int)), .int (Int32.ofInt ((0 : Nat) : Int)), .ref q2, .ref q5, .ref q6, .ref q7, .ref q8])) :: (q2, .inr (1, [.ref q3])) :: (q3, .inl (kA 2, 25, .inr (.inl f4))) :: (q5, .inl (kA 1, 8, .inl (fun _ => 0))) :: (q6, .inl (kA 1, 40, .inl (fun _ => 0))) :: (q7, .inl (kA 1, 96, .inl (fun _ => 0))) :: (q8, .inl (kA 1, 8, .inl (fun _ => 0))) :: (q9, .inr (6, [.ref q10, .ref q11, .ref q12, .ref q13, .int (Int32.ofInt ((0 : Nat) : Int)), .int (Int32.ofInt ((0 : Nat) : Int)), .int (Int32.ofInt ((0 : Nat) : Int))])) :: (q10, .inl (kA 1, 700, .inl (fun _ => 0))) :: (q11, .inl (kA 1, 701, .inl (fun _ => 0))) :: (q12, .inl (kA 1, 701, .inl (fun _ => 0))) :: (q13, .inl (kA 1, 701, .inl (fun _ => 0))) :: [])) rfl ?_
  refine xi_aload C 0 0 dX5_init_36 rfl rfl ?_
  refine xi_iconst C (Int32.ofInt ((0 : Nat) : Int)) dX5_init_37 rfl ?_
  refine xi_put C 0 .int dX5_init_38 rfl rfl (by decide +kernel) rfl rfl rfl (Nat.le_of_ble_eq_true rfl) ?_
  refine xi_w (w2 := ((h, .inr (4, [.int (Int32.ofInt ((0 : Nat) : Int)), .int (-1), .ref q1, .ref q9, .int (Int32.ofInt ((0 : Nat) : Int))])) :: (q1, .inr (7, [.int (Int32.ofInt ((0 : Nat) : Int)), .int (Int32.ofInt ((0 : Nat) : Int)), .int (Int32.ofInt ((0 : Nat) : Int)), .int (Int32.ofInt ((0 : Nat) : Int)), .ref q2, .ref q5, .ref q6, .ref q7, .ref q8])) :: (q2, .inr (1, [.ref q3])) :: (q3, .inl (kA 2, 25, .inr (.inl f4))) :: (q5, .inl (kA 1, 8, .inl (fun _ => 0))) :: (q6, .inl (kA 1, 40, .inl (fun _ => 0))) :: (q7, .inl (kA 1, 96, .inl (fun _ => 0))) :: (q8, .inl (kA 1, 8, .inl (fun _ => 0))) :: (q9, .inr (6, [.ref q10, .ref q11, .ref q12, .ref q13, .int (Int32.ofInt ((0 : Nat) : Int)), .int (Int32.ofInt ((0 : Nat) : Int)), .int (Int32.ofInt ((0 : Nat) : Int))])) :: (q10, .inl (kA 1, 700, .inl (fun _ => 0))) :: (q11, .inl (kA 1, 701, .inl (fun _ => 0))) :: (q12, .inl (kA 1, 701, .inl (fun _ => 0))) :: (q13, .inl (kA 1, 701, .inl (fun _ => 0))) :: [])) rfl ?_
  exact xi_return C hA hr dX5_init_41 (Nat.le_of_ble_eq_true rfl) (Nat.le_of_ble_eq_true rfl) ⟨q1, q2, q3, f4, q5, q6, q7, q8, q9, q10, q11, q12, q13, p1, rfl⟩
