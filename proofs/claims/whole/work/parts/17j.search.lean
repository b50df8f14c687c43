/-! Search's constructor: the ranks are filled -/
def wyR (G : Nat → Nat) : Nat → Nat
  | 0 => 1
  | m + 1 => G (m + 1) + wyR G m
def wyN : Nat → Nat → Nat
  | 0 => fun _ => 1
  | r + 1 => wyR (wyN r)
theorem wyN_0 (m : Nat) : wyN 0 m = 1 := rfl
theorem wyN_z (r : Nat) : wyN r 0 = 1 := by cases r with
  | zero => rfl
  | succ r => rfl
theorem wyN_s (r m : Nat) : wyN (r + 1) (m + 1) = wyN r (m + 1) + wyN (r + 1) m := rfl
def wyF (r m : Nat) (f : Nat → Int32) : Prop := ∀ r2 m2, m2 ≤ 8 → 9 * r2 + m2 < 9 * r + m → f (9 * r2 + m2) = Int32.ofInt ((wyN r2 m2 : Nat) : Int)
theorem wyF_up {r m : Nat} {f : Nat → Int32} (h : wyF r m f) (hm : m ≤ 8) : wyF r (m + 1) (upd f (9 * r + m) (Int32.ofInt ((wyN r m : Nat) : Int))) := by
  intro r2 m2 h2 h3
  unfold upd
  by_cases q : 9 * r2 + m2 = 9 * r + m
  · have e1 : r2 = r := by omega
    have e2 : m2 = m := by omega
    rw [if_pos q, e1, e2]
  · rw [if_neg q]
    exact h r2 m2 h2 (by omega)
theorem wyF_1 {r m : Nat} (h : r = 0 ∨ m = 0) : (1 : Int32) = Int32.ofInt ((wyN r m : Nat) : Int) := by
  rcases h with rfl | rfl
  · rw [wyN_0]; rfl
  · rw [wyN_z]; rfl
theorem wyF_s {r m : Nat} {f : Nat → Int32} (h : wyF r m f) (hr : 0 < r) (hm : 0 < m) (h8 : m ≤ 8) : f (9 * r + m - 9) + f (9 * r + m - 1) = Int32.ofInt ((wyN r m : Nat) : Int) := by
  obtain ⟨r, rfl⟩ : ∃ k, r = k + 1 := ⟨r - 1, by omega⟩
  obtain ⟨m, rfl⟩ : ∃ k, m = k + 1 := ⟨m - 1, by omega⟩
  rw [show 9 * (r + 1) + (m + 1) - 9 = 9 * r + (m + 1) by omega, show 9 * (r + 1) + (m + 1) - 1 = 9 * (r + 1) + m by omega, h r (m + 1) (by omega) (by omega), h (r + 1) m (by omega) (by omega), wyN_s, ← Int32.ofInt_add, Int.natCast_add]
theorem i_96 {r m : Nat} : Int32.ofInt (r : Int) * Int32.ofInt ((9 : Nat) : Int) + Int32.ofInt (m : Int) = Int32.ofInt ((9 * r + m : Nat) : Int) := by
  rw [← Int32.ofInt_mul, ← Int32.ofInt_add]
  exact congrArg Int32.ofInt (by omega)
theorem i_sb {a b : Nat} (h : b ≤ a) : Int32.ofInt (a : Int) - Int32.ofInt (b : Int) = Int32.ofInt ((a - b : Nat) : Int) := by
  rw [← Int32.ofInt_sub]
  exact congrArg Int32.ofInt (by omega)
theorem i_0 {a : Nat} (ha : a < 2147483648) : Int32.ofInt (a : Int) = 0 ↔ a = 0 := by
  constructor
  · intro h
    have h2 := i_cl ha
    rw [h] at h2
    exact h2.symm
  · rintro rfl
    rfl
set_option maxRecDepth 100000 in
set_option maxHeartbeats 4000000 in
theorem i_X6 {l : Launch} {D : va_G} {kA : Nat → ClassId} (h : Nat) : CtI l D kA yX6_init cX6_init 5 0 [.ref h] [(h, .inr (5, dflV 5))] 5 24792 (fun w1 => ∃ q1 : Nat, ∃ q2 : Nat, ∃ q3 : Nat, ∃ q4 : Nat, ∃ q5 : Nat, ∃ f6 : Nat → Int32, (∀ r m, r ≤ 9 → m ≤ 8 → f6 (9 * r + m) = Int32.ofInt ((wyN r m : Nat) : Int)) ∧ w1 = ((h, .inr (5, [.int (Int32.ofInt ((0 : Nat) : Int)), .int (Int32.ofInt ((0 : Nat) : Int)), .int (Int32.ofInt ((0 : Nat) : Int)), .ref q1, .ref q2, .ref q3, .ref q4, .ref q5])) :: (q1, .inl (kA 1, 24310, .inl (fun _ => 0))) :: (q2, .inl (kA 2, 380, .inr (.inl (fun _ => 0)))) :: (q3, .inl (kA 1, 6, .inl (fun _ => 0))) :: (q4, .inl (kA 1, 6, .inl (fun _ => 0))) :: (q5, .inl (kA 1, 90, .inl f6)) :: [])) := by
  refine mk_I (own := 6) (by decide +kernel) rfl (Nat.le_of_ble_eq_true rfl) ?_
  intro p e s m args below meth c A C hA hr
  refine xi_w (w2 := ((h, .inr (5, [.int 0, .int 0, .int 0, .null, .null, .null, .null, .null])) :: [])) rfl ?_
  refine xi_aload C 0 0 dX6_init_0 rfl rfl ?_
  refine xi_objInit C dX6_init_1 gi32 (Nat.le_of_ble_eq_true rfl) (Nat.le_of_ble_eq_true rfl) (Nat.le_of_ble_eq_true rfl) ?_
  refine xi_aload C 0 0 dX6_init_4 rfl rfl ?_
  refine xi_iconst C (Int32.ofInt ((0 : Nat) : Int)) dX6_init_5 rfl ?_
  refine xi_put C 0 .int dX6_init_6 rfl rfl (by decide +kernel) rfl rfl rfl (Nat.le_of_ble_eq_true rfl) ?_
  refine xi_w (w2 := ((h, .inr (5, [.int (Int32.ofInt ((0 : Nat) : Int)), .int 0, .int 0, .null, .null, .null, .null, .null])) :: [])) rfl ?_
  refine xi_aload C 0 0 dX6_init_9 rfl rfl ?_
  refine xi_iconst C (Int32.ofInt ((0 : Nat) : Int)) dX6_init_10 rfl ?_
  refine xi_put C 0 .int dX6_init_11 rfl rfl (by decide +kernel) rfl rfl rfl (Nat.le_of_ble_eq_true rfl) ?_
  refine xi_w (w2 := ((h, .inr (5, [.int (Int32.ofInt ((0 : Nat) : Int)), .int (Int32.ofInt ((0 : Nat) : Int)), .int 0, .null, .null, .null, .null, .null])) :: [])) rfl ?_
  refine xi_aload C 0 0 dX6_init_14 rfl rfl ?_
  refine xi_iconst C (Int32.ofInt ((0 : Nat) : Int)) dX6_init_15 rfl ?_
  refine xi_put C 0 .int dX6_init_16 rfl rfl (by decide +kernel) rfl rfl rfl (Nat.le_of_ble_eq_true rfl) ?_
  refine xi_w (w2 := ((h, .inr (5, [.int (Int32.ofInt ((0 : Nat) : Int)), .int (Int32.ofInt ((0 : Nat) : Int)), .int (Int32.ofInt ((0 : Nat) : Int)), .null, .null, .null, .null, .null])) :: [])) rfl ?_
  refine xi_aload C 0 0 dX6_init_19 rfl rfl ?_
  refine xi_sipush C (Int32.ofInt ((24310 : Nat) : Int)) dX6_init_20 rfl ?_
  refine xi_newI C 24310 dX6_init_23 (i_nn (a := 24310) (by decide)) (i_cl (a := 24310) (by decide)) (Nat.le_of_ble_eq_true rfl) (Nat.le_of_ble_eq_true rfl) (Nat.le_of_ble_eq_true rfl) (fun q1 => ?_)
  refine xi_w (w2 := ((h, .inr (5, [.int (Int32.ofInt ((0 : Nat) : Int)), .int (Int32.ofInt ((0 : Nat) : Int)), .int (Int32.ofInt ((0 : Nat) : Int)), .null, .null, .null, .null, .null])) :: (q1, .inl (kA 1, 24310, .inl (fun _ => 0))) :: [])) rfl ?_
  refine xi_putF C 0 (.array .int) dX6_init_25 rfl rfl (by decide +kernel) rfl rfl rfl rfl (Nat.le_of_ble_eq_true rfl) ?_
  refine xi_w (w2 := ((h, .inr (5, [.int (Int32.ofInt ((0 : Nat) : Int)), .int (Int32.ofInt ((0 : Nat) : Int)), .int (Int32.ofInt ((0 : Nat) : Int)), .ref q1, .null, .null, .null, .null])) :: (q1, .inl (kA 1, 24310, .inl (fun _ => 0))) :: [])) rfl ?_
  refine xi_aload C 0 0 dX6_init_28 rfl rfl ?_
  refine xi_sipush C (Int32.ofInt ((380 : Nat) : Int)) dX6_init_29 rfl ?_
  refine xi_newJ C 380 dX6_init_32 (i_nn (a := 380) (by decide)) (i_cl (a := 380) (by decide)) (Nat.le_of_ble_eq_true rfl) (Nat.le_of_ble_eq_true rfl) (Nat.le_of_ble_eq_true rfl) (fun q2 => ?_)
  refine xi_w (w2 := ((h, .inr (5, [.int (Int32.ofInt ((0 : Nat) : Int)), .int (Int32.ofInt ((0 : Nat) : Int)), .int (Int32.ofInt ((0 : Nat) : Int)), .ref q1, .null, .null, .null, .null])) :: (q1, .inl (kA 1, 24310, .inl (fun _ => 0))) :: (q2, .inl (kA 2, 380, .inr (.inl (fun _ => 0)))) :: [])) rfl ?_
  refine xi_putF C 0 (.array .long) dX6_init_34 rfl rfl (by decide +kernel) rfl rfl rfl rfl (Nat.le_of_ble_eq_true rfl) ?_
  refine xi_w (w2 := ((h, .inr (5, [.int (Int32.ofInt ((0 : Nat) : Int)), .int (Int32.ofInt ((0 : Nat) : Int)), .int (Int32.ofInt ((0 : Nat) : Int)), .ref q1, .ref q2, .null, .null, .null])) :: (q1, .inl (kA 1, 24310, .inl (fun _ => 0))) :: (q2, .inl (kA 2, 380, .inr (.inl (fun _ => 0)))) :: [])) rfl ?_
  refine xi_aload C 0 0 dX6_init_37 rfl rfl ?_
  refine xi_bipush C (Int32.ofInt ((6 : Nat) : Int)) dX6_init_38 rfl ?_
  refine xi_newI C 6 dX6_init_40 (i_nn (a := 6) (by decide)) (i_cl (a := 6) (by decide)) (Nat.le_of_ble_eq_true rfl) (Nat.le_of_ble_eq_true rfl) (Nat.le_of_ble_eq_true rfl) (fun q3 => ?_)
  refine xi_w (w2 := ((h, .inr (5, [.int (Int32.ofInt ((0 : Nat) : Int)), .int (Int32.ofInt ((0 : Nat) : Int)), .int (Int32.ofInt ((0 : Nat) : Int)), .ref q1, .ref q2, .null, .null, .null])) :: (q1, .inl (kA 1, 24310, .inl (fun _ => 0))) :: (q2, .inl (kA 2, 380, .inr (.inl (fun _ => 0)))) :: (q3, .inl (kA 1, 6, .inl (fun _ => 0))) :: [])) rfl ?_
  refine xi_putF C 0 (.array .int) dX6_init_42 rfl rfl (by decide +kernel) rfl rfl rfl rfl (Nat.le_of_ble_eq_true rfl) ?_
  refine xi_w (w2 := ((h, .inr (5, [.int (Int32.ofInt ((0 : Nat) : Int)), .int (Int32.ofInt ((0 : Nat) : Int)), .int (Int32.ofInt ((0 : Nat) : Int)), .ref q1, .ref q2, .ref q3, .null, .null])) :: (q1, .inl (kA 1, 24310, .inl (fun _ => 0))) :: (q2, .inl (kA 2, 380, .inr (.inl (fun _ => 0)))) :: (q3, .inl (kA 1, 6, .inl (fun _ => 0))) :: [])) rfl ?_
  refine xi_aload C 0 0 dX6_init_45 rfl rfl ?_
  refine xi_bipush C (Int32.ofInt ((6 : Nat) : Int)) dX6_init_46 rfl ?_
  refine xi_newI C 6 dX6_init_48 (i_nn (a := 6) (by decide)) (i_cl (a := 6) (by decide)) (Nat.le_of_ble_eq_true rfl) (Nat.le_of_ble_eq_true rfl) (Nat.le_of_ble_eq_true rfl) (fun q4 => ?_)
  refine xi_w (w2 := ((h, .inr (5, [.int (Int32.ofInt ((0 : Nat) : Int)), .int (Int32.ofInt ((0 : Nat) : Int)), .int (Int32.ofInt ((0 : Nat) : Int)), .ref q1, .ref q2, .ref q3, .null, .null])) :: (q1, .inl (kA 1, 24310, .inl (fun _ => 0))) :: (q2, .inl (kA 2, 380, .inr (.inl (fun _ => 0)))) :: (q3, .inl (kA 1, 6, .inl (fun _ => 0))) :: (q4, .inl (kA 1, 6, .inl (fun _ => 0))) :: [])) rfl ?_
  refine xi_putF C 0 (.array .int) dX6_init_50 rfl rfl (by decide +kernel) rfl rfl rfl rfl (Nat.le_of_ble_eq_true rfl) ?_
  refine xi_w (w2 := ((h, .inr (5, [.int (Int32.ofInt ((0 : Nat) : Int)), .int (Int32.ofInt ((0 : Nat) : Int)), .int (Int32.ofInt ((0 : Nat) : Int)), .ref q1, .ref q2, .ref q3, .ref q4, .null])) :: (q1, .inl (kA 1, 24310, .inl (fun _ => 0))) :: (q2, .inl (kA 2, 380, .inr (.inl (fun _ => 0)))) :: (q3, .inl (kA 1, 6, .inl (fun _ => 0))) :: (q4, .inl (kA 1, 6, .inl (fun _ => 0))) :: [])) rfl ?_
  refine xi_aload C 0 0 dX6_init_53 rfl rfl ?_
  refine xi_bipush C (Int32.ofInt ((90 : Nat) : Int)) dX6_init_54 rfl ?_
  refine xi_newI C 90 dX6_init_56 (i_nn (a := 90) (by decide)) (i_cl (a := 90) (by decide)) (Nat.le_of_ble_eq_true rfl) (Nat.le_of_ble_eq_true rfl) (Nat.le_of_ble_eq_true rfl) (fun q5 => ?_)
  refine xi_w (w2 := ((h, .inr (5, [.int (Int32.ofInt ((0 : Nat) : Int)), .int (Int32.ofInt ((0 : Nat) : Int)), .int (Int32.ofInt ((0 : Nat) : Int)), .ref q1, .ref q2, .ref q3, .ref q4, .null])) :: (q1, .inl (kA 1, 24310, .inl (fun _ => 0))) :: (q2, .inl (kA 2, 380, .inr (.inl (fun _ => 0)))) :: (q3, .inl (kA 1, 6, .inl (fun _ => 0))) :: (q4, .inl (kA 1, 6, .inl (fun _ => 0))) :: (q5, .inl (kA 1, 90, .inl (fun _ => 0))) :: [])) rfl ?_
  refine xi_putF C 0 (.array .int) dX6_init_58 rfl rfl (by decide +kernel) rfl rfl rfl rfl (Nat.le_of_ble_eq_true rfl) ?_
  refine xi_w (w2 := ((h, .inr (5, [.int (Int32.ofInt ((0 : Nat) : Int)), .int (Int32.ofInt ((0 : Nat) : Int)), .int (Int32.ofInt ((0 : Nat) : Int)), .ref q1, .ref q2, .ref q3, .ref q4, .ref q5])) :: (q1, .inl (kA 1, 24310, .inl (fun _ => 0))) :: (q2, .inl (kA 2, 380, .inr (.inl (fun _ => 0)))) :: (q3, .inl (kA 1, 6, .inl (fun _ => 0))) :: (q4, .inl (kA 1, 6, .inl (fun _ => 0))) :: (q5, .inl (kA 1, 90, .inl (fun _ => 0))) :: [])) rfl ?_
  refine xi_iconst C (Int32.ofInt ((0 : Nat) : Int)) dX6_init_61 rfl ?_
  refine xi_istore C 1 (lv2 := [(1, .int (Int32.ofInt ((0 : Nat) : Int))), (0, .ref h)]) dX6_init_62 rfl (by decide) rfl ?_
  have outer : ∀ d r : Nat, r + d = 10 → ∀ f : Nat → Int32, wyF r 0 f → XI p l e (rI 0 5 24792) s m args below meth c D A 5 5 24792 (QI below D [(h, .inr (5, dflV 5))] (fun w1 => ∃ q1 : Nat, ∃ q2 : Nat, ∃ q3 : Nat, ∃ q4 : Nat, ∃ q5 : Nat, ∃ f6 : Nat → Int32, (∀ r m, r ≤ 9 → m ≤ 8 → f6 (9 * r + m) = Int32.ofInt ((wyN r m : Nat) : Int)) ∧ w1 = ((h, .inr (5, [.int (Int32.ofInt ((0 : Nat) : Int)), .int (Int32.ofInt ((0 : Nat) : Int)), .int (Int32.ofInt ((0 : Nat) : Int)), .ref q1, .ref q2, .ref q3, .ref q4, .ref q5])) :: (q1, .inl (kA 1, 24310, .inl (fun _ => 0))) :: (q2, .inl (kA 2, 380, .inr (.inl (fun _ => 0)))) :: (q3, .inl (kA 1, 6, .inl (fun _ => 0))) :: (q4, .inl (kA 1, 6, .inl (fun _ => 0))) :: (q5, .inl (kA 1, 90, .inl f6)) :: [])) args s 5 24792) 63 [(1, .int (Int32.ofInt (r : Int))), (0, .ref h)] [] ((h, .inr (5, [.int (Int32.ofInt ((0 : Nat) : Int)), .int (Int32.ofInt ((0 : Nat) : Int)), .int (Int32.ofInt ((0 : Nat) : Int)), .ref q1, .ref q2, .ref q3, .ref q4, .ref q5])) :: (q1, .inl (kA 1, 24310, .inl (fun _ => 0))) :: (q2, .inl (kA 2, 380, .inr (.inl (fun _ => 0)))) :: (q3, .inl (kA 1, 6, .inl (fun _ => 0))) :: (q4, .inl (kA 1, 6, .inl (fun _ => 0))) :: (q5, .inl (kA 1, 90, .inl f)) :: []) := by
    intro d
    induction d with
    | zero =>
      intro r hr2 f hf
      refine xi_iload C 1 0 dX6_init_63 rfl rfl ?_
      refine xi_bipush C (Int32.ofInt ((9 : Nat) : Int)) dX6_init_64 rfl ?_
      refine xi_icmpgt C 146 dX6_init_66 rfl (fun _ => ?_) (fun q => absurd ((i_lt (by omega) (by omega)).mpr (by omega)) q)
      exact xi_return C hA hr dX6_init_146 (Nat.le_refl _) (Nat.le_refl _) ⟨q1, q2, q3, q4, q5, f, fun r9 m9 h1 h2 => hf r9 m9 h2 (by omega), rfl⟩
    | succ d ih =>
      intro r hr2 f hf
      refine xi_iload C 1 0 dX6_init_63 rfl rfl ?_
      refine xi_bipush C (Int32.ofInt ((9 : Nat) : Int)) dX6_init_64 rfl ?_
      refine xi_icmpgt C 146 dX6_init_66 rfl (fun q => absurd ((i_lt (by omega) (by omega)).mp q) (by omega)) (fun _ => ?_)
      refine xi_iconst C (Int32.ofInt ((0 : Nat) : Int)) dX6_init_69 rfl ?_
      refine xi_istore C 2 (lv2 := [(2, .int (Int32.ofInt ((0 : Nat) : Int))), (1, .int (Int32.ofInt (r : Int))), (0, .ref h)]) dX6_init_70 rfl (by decide) rfl ?_
      have inner : ∀ d2 m9 : Nat, m9 + d2 = 9 → ∀ f : Nat → Int32, wyF r m9 f → XI p l e (rI 0 5 24792) s m args below meth c D A 5 5 24792 (QI below D [(h, .inr (5, dflV 5))] (fun w1 => ∃ q1 : Nat, ∃ q2 : Nat, ∃ q3 : Nat, ∃ q4 : Nat, ∃ q5 : Nat, ∃ f6 : Nat → Int32, (∀ r m, r ≤ 9 → m ≤ 8 → f6 (9 * r + m) = Int32.ofInt ((wyN r m : Nat) : Int)) ∧ w1 = ((h, .inr (5, [.int (Int32.ofInt ((0 : Nat) : Int)), .int (Int32.ofInt ((0 : Nat) : Int)), .int (Int32.ofInt ((0 : Nat) : Int)), .ref q1, .ref q2, .ref q3, .ref q4, .ref q5])) :: (q1, .inl (kA 1, 24310, .inl (fun _ => 0))) :: (q2, .inl (kA 2, 380, .inr (.inl (fun _ => 0)))) :: (q3, .inl (kA 1, 6, .inl (fun _ => 0))) :: (q4, .inl (kA 1, 6, .inl (fun _ => 0))) :: (q5, .inl (kA 1, 90, .inl f6)) :: [])) args s 5 24792) 71 [(2, .int (Int32.ofInt (m9 : Int))), (1, .int (Int32.ofInt (r : Int))), (0, .ref h)] [] ((h, .inr (5, [.int (Int32.ofInt ((0 : Nat) : Int)), .int (Int32.ofInt ((0 : Nat) : Int)), .int (Int32.ofInt ((0 : Nat) : Int)), .ref q1, .ref q2, .ref q3, .ref q4, .ref q5])) :: (q1, .inl (kA 1, 24310, .inl (fun _ => 0))) :: (q2, .inl (kA 2, 380, .inr (.inl (fun _ => 0)))) :: (q3, .inl (kA 1, 6, .inl (fun _ => 0))) :: (q4, .inl (kA 1, 6, .inl (fun _ => 0))) :: (q5, .inl (kA 1, 90, .inl f)) :: []) := by
        intro d2
        induction d2 with
        | zero =>
          intro m9 hm f hf
          refine xi_iload C 2 0 dX6_init_71 rfl rfl ?_
          refine xi_bipush C (Int32.ofInt ((8 : Nat) : Int)) dX6_init_72 rfl ?_
          refine xi_icmpgt C 140 dX6_init_74 rfl (fun _ => ?_) (fun q => absurd ((i_lt (by omega) (by omega)).mpr (by omega)) q)
          refine xi_iinc C 1 1 (Int32.ofInt ((r + 1 : Nat) : Int)) (lv2 := [(1, .int (Int32.ofInt ((r + 1 : Nat) : Int))), (2, .int (Int32.ofInt (m9 : Int))), (0, .ref h)]) dX6_init_140 rfl (i_s (by omega)) (by decide) rfl ?_
          refine xi_goto C 63 dX6_init_143 rfl ?_
          refine xi_lv [0, 2] (lv2 := [(1, .int (Int32.ofInt ((r + 1 : Nat) : Int))), (0, .ref h)]) rfl ?_
          exact ih (r + 1) (by omega) f (fun r2 m2 h2 h3 => hf r2 m2 h2 (by omega))
        | succ d2 ih2 =>
          intro m9 hm f hf
          have fin : ∀ v x4 : Int32, v = Int32.ofInt ((wyN r m9 : Nat) : Int) → XI p l e (rI 0 5 24792) s m args below meth c D A 5 5 24792 (QI below D [(h, .inr (5, dflV 5))] (fun w1 => ∃ q1 : Nat, ∃ q2 : Nat, ∃ q3 : Nat, ∃ q4 : Nat, ∃ q5 : Nat, ∃ f6 : Nat → Int32, (∀ r m, r ≤ 9 → m ≤ 8 → f6 (9 * r + m) = Int32.ofInt ((wyN r m : Nat) : Int)) ∧ w1 = ((h, .inr (5, [.int (Int32.ofInt ((0 : Nat) : Int)), .int (Int32.ofInt ((0 : Nat) : Int)), .int (Int32.ofInt ((0 : Nat) : Int)), .ref q1, .ref q2, .ref q3, .ref q4, .ref q5])) :: (q1, .inl (kA 1, 24310, .inl (fun _ => 0))) :: (q2, .inl (kA 2, 380, .inr (.inl (fun _ => 0)))) :: (q3, .inl (kA 1, 6, .inl (fun _ => 0))) :: (q4, .inl (kA 1, 6, .inl (fun _ => 0))) :: (q5, .inl (kA 1, 90, .inl f6)) :: [])) args s 5 24792) 133 [(4, .int (Int32.ofInt ((9 * r + m9 : Nat) : Int))), (3, .int x4), (2, .int (Int32.ofInt (m9 : Int))), (1, .int (Int32.ofInt (r : Int))), (0, .ref h)] [.int v, .int (Int32.ofInt ((9 * r + m9 : Nat) : Int)), .ref q5] ((h, .inr (5, [.int (Int32.ofInt ((0 : Nat) : Int)), .int (Int32.ofInt ((0 : Nat) : Int)), .int (Int32.ofInt ((0 : Nat) : Int)), .ref q1, .ref q2, .ref q3, .ref q4, .ref q5])) :: (q1, .inl (kA 1, 24310, .inl (fun _ => 0))) :: (q2, .inl (kA 2, 380, .inr (.inl (fun _ => 0)))) :: (q3, .inl (kA 1, 6, .inl (fun _ => 0))) :: (q4, .inl (kA 1, 6, .inl (fun _ => 0))) :: (q5, .inl (kA 1, 90, .inl f)) :: []) := by
            intro v x4 hv
            refine xi_iast C 5 dX6_init_133 rfl (i_in (by omega) (by omega)) ?_
            refine xi_iinc C 2 2 (Int32.ofInt ((m9 + 1 : Nat) : Int)) (lv2 := [(2, .int (Int32.ofInt ((m9 + 1 : Nat) : Int))), (4, .int (Int32.ofInt ((9 * r + m9 : Nat) : Int))), (3, .int x4), (1, .int (Int32.ofInt (r : Int))), (0, .ref h)]) dX6_init_134 rfl (i_s (by omega)) (by decide) rfl ?_
            refine xi_goto C 71 dX6_init_137 rfl ?_
            refine xi_lv [0, 3, 4] (lv2 := [(2, .int (Int32.ofInt ((m9 + 1 : Nat) : Int))), (1, .int (Int32.ofInt (r : Int))), (0, .ref h)]) rfl ?_
            refine ih2 (m9 + 1) (by omega) (upd f (Int32.ofInt ((9 * r + m9 : Nat) : Int)).toNatClampNeg v) ?_
            rw [i_cl (by omega), hv]
            exact wyF_up hf (by omega)
          have tail : ∀ x : Int32, x = (if r = 0 ∨ m9 = 0 then 1 else 0) → XI p l e (rI 0 5 24792) s m args below meth c D A 5 5 24792 (QI below D [(h, .inr (5, dflV 5))] (fun w1 => ∃ q1 : Nat, ∃ q2 : Nat, ∃ q3 : Nat, ∃ q4 : Nat, ∃ q5 : Nat, ∃ f6 : Nat → Int32, (∀ r m, r ≤ 9 → m ≤ 8 → f6 (9 * r + m) = Int32.ofInt ((wyN r m : Nat) : Int)) ∧ w1 = ((h, .inr (5, [.int (Int32.ofInt ((0 : Nat) : Int)), .int (Int32.ofInt ((0 : Nat) : Int)), .int (Int32.ofInt ((0 : Nat) : Int)), .ref q1, .ref q2, .ref q3, .ref q4, .ref q5])) :: (q1, .inl (kA 1, 24310, .inl (fun _ => 0))) :: (q2, .inl (kA 2, 380, .inr (.inl (fun _ => 0)))) :: (q3, .inl (kA 1, 6, .inl (fun _ => 0))) :: (q4, .inl (kA 1, 6, .inl (fun _ => 0))) :: (q5, .inl (kA 1, 90, .inl f6)) :: [])) args s 5 24792) 90 [(2, .int (Int32.ofInt (m9 : Int))), (1, .int (Int32.ofInt (r : Int))), (0, .ref h)] [.int x] ((h, .inr (5, [.int (Int32.ofInt ((0 : Nat) : Int)), .int (Int32.ofInt ((0 : Nat) : Int)), .int (Int32.ofInt ((0 : Nat) : Int)), .ref q1, .ref q2, .ref q3, .ref q4, .ref q5])) :: (q1, .inl (kA 1, 24310, .inl (fun _ => 0))) :: (q2, .inl (kA 2, 380, .inr (.inl (fun _ => 0)))) :: (q3, .inl (kA 1, 6, .inl (fun _ => 0))) :: (q4, .inl (kA 1, 6, .inl (fun _ => 0))) :: (q5, .inl (kA 1, 90, .inl f)) :: []) := by
            intro x hx
            refine xi_istore C 3 (lv2 := [(3, .int x), (2, .int (Int32.ofInt (m9 : Int))), (1, .int (Int32.ofInt (r : Int))), (0, .ref h)]) dX6_init_90 rfl (by decide) rfl ?_
            refine xi_iload C 1 2 dX6_init_91 rfl rfl ?_
            refine xi_bipush C (Int32.ofInt ((9 : Nat) : Int)) dX6_init_92 rfl ?_
            refine xi_imul C dX6_init_94 ?_
            refine xi_iload C 2 1 dX6_init_95 rfl rfl ?_
            refine xi_iadd C dX6_init_96 ?_
            rw [i_96]
            refine xi_istore4 C 4 (lv2 := [(4, .int (Int32.ofInt ((9 * r + m9 : Nat) : Int))), (3, .int x), (2, .int (Int32.ofInt (m9 : Int))), (1, .int (Int32.ofInt (r : Int))), (0, .ref h)]) dX6_init_97 (by decide) rfl ?_
            refine xi_aload C 0 4 dX6_init_99 rfl rfl ?_
            refine xi_get C 0 dX6_init_100 rfl rfl rfl ?_
            refine xi_iload4 C 4 0 dX6_init_103 rfl ?_
            refine xi_iload C 3 1 dX6_init_105 rfl rfl ?_
            refine xi_ifeq C 113 dX6_init_106 rfl (fun q => ?_) (fun q => ?_)
            · have hn : ¬ (r = 0 ∨ m9 = 0) := fun z => by rw [hx, if_pos z] at q; exact absurd q (by decide)
              refine xi_aload C 0 4 dX6_init_113 rfl rfl ?_
              refine xi_get C 0 dX6_init_114 rfl rfl rfl ?_
              refine xi_iload4 C 4 0 dX6_init_117 rfl ?_
              refine xi_bipush C (Int32.ofInt ((9 : Nat) : Int)) dX6_init_119 rfl ?_
              refine xi_isub C dX6_init_121 ?_
              rw [i_sb (by omega)]
              refine xi_iald C 5 dX6_init_122 rfl (i_in (by omega) (by omega)) ?_
              refine xi_aload C 0 4 dX6_init_123 rfl rfl ?_
              refine xi_get C 0 dX6_init_124 rfl rfl rfl ?_
              refine xi_iload4 C 4 0 dX6_init_127 rfl ?_
              refine xi_iconst C (Int32.ofInt ((1 : Nat) : Int)) dX6_init_129 rfl ?_
              refine xi_isub C dX6_init_130 ?_
              rw [i_sb (by omega)]
              refine xi_iald C 5 dX6_init_131 rfl (i_in (by omega) (by omega)) ?_
              refine xi_iadd C dX6_init_132 ?_
              refine fin _ _ ?_
              rw [i_cl (by omega), i_cl (by omega)]
              exact wyF_s hf (by omega) (by omega) (by omega)
            · have hn : r = 0 ∨ m9 = 0 := Decidable.byContradiction fun z => q (by rw [hx, if_neg z])
              refine xi_iconst C 1 dX6_init_109 rfl ?_
              refine xi_goto C 133 dX6_init_110 rfl ?_
              exact fin _ _ (wyF_1 hn)
          refine xi_iload C 2 0 dX6_init_71 rfl rfl ?_
          refine xi_bipush C (Int32.ofInt ((8 : Nat) : Int)) dX6_init_72 rfl ?_
          refine xi_icmpgt C 140 dX6_init_74 rfl (fun q => absurd ((i_lt (by omega) (by omega)).mp q) (by omega)) (fun _ => ?_)
          refine xi_iload C 1 1 dX6_init_77 rfl rfl ?_
          refine xi_ifeq C 85 dX6_init_78 rfl (fun q => ?_) (fun q => ?_)
          · refine xi_iconst C 1 dX6_init_85 rfl ?_
            refine xi_goto C 90 dX6_init_86 rfl ?_
            exact tail 1 (by rw [if_pos (Or.inl ((i_0 (by omega)).mp q))])
          · refine xi_iload C 2 0 dX6_init_81 rfl rfl ?_
            refine xi_ifne C 89 dX6_init_82 rfl (fun q2 => ?_) (fun q2 => ?_)
            · refine xi_iconst C 0 dX6_init_89 rfl ?_
              refine tail 0 (by rw [if_neg (fun z => z.elim (fun z => q ((i_0 (by omega)).mpr z)) (fun z => q2 ((i_0 (by omega)).mpr z)))])
            · refine xi_iconst C 1 dX6_init_85 rfl ?_
              refine xi_goto C 90 dX6_init_86 rfl ?_
              exact tail 1 (by rw [if_pos (Or.inr ((i_0 (by omega)).mp q2))])
      exact inner 9 0 rfl f hf
  exact outer 10 0 rfl (fun _ => 0) (fun r2 m2 h2 h3 => absurd h3 (by omega))
