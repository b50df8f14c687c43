/-! loops that fill rows while objects are made -/
theorem i_lt {a b : Nat} (ha : a < 2147483648) (hb : b < 2147483648) : Int32.ofInt (a : Int) < Int32.ofInt (b : Int) ↔ a < b := by
  rw [i32_lt (by unfold in32; omega) (by unfold in32; omega)]
  omega
theorem i_le {a b : Nat} (ha : a < 2147483648) (hb : b < 2147483648) : Int32.ofInt (a : Int) ≤ Int32.ofInt (b : Int) ↔ a ≤ b := by
  rw [i32_le (by unfold in32; omega) (by unfold in32; omega)]
  omega
theorem i_s {a : Nat} (ha : a < 2147483647) : Int32.ofInt (a : Int) + Int32.ofInt 1 = Int32.ofInt ((a + 1 : Nat) : Int) := by
  rw [add_32, show w32 ((a : Int) + 1) = ((a + 1 : Nat) : Int) by unfold w32; omega]
theorem i_in {a n : Nat} (ha : a < n) (hn : n < 2147483648) : vp_in (Int32.ofInt (a : Int)) n := i32_in' (by unfold in32; omega) (by omega)
theorem i_cl {a : Nat} (ha : a < 2147483648) : (Int32.ofInt (a : Int)).toNatClampNeg = a := by rw [i32_cl (by unfold in32; omega), Int.toNat_natCast]
theorem i_on {a : Nat} : Int32.ofNat a = Int32.ofInt (a : Int) := (Int32.ofInt_eq_ofNat (n := a)).symm
section LPS
variable {p : Program} {l : Launch} {e : Env} {R : Room} {s : State} {m : MethodId} {args : Array Value} {below : List Frame} {meth : Method} {c : Code} {D : va_G} {kA : Nat → ClassId} {A : Nat → Prop} {nL cl sl own : Nat} {cc : ByteArray} {nm : String} {Q : State → Prop}
variable {pc : Nat} {lv : List (Nat × Value)} {S : List Value} {w : va_W}
theorem xi_ifeq (C : Ki p s m args meth c D kA A nL own cc nm) {x : Int32} {off : Int} (tgt : Nat) (hd : decode cc pc = .ok (.ifCond .eq off, 3)) (ht : (pc : Int) + off = (tgt : Int)) (h1 : x = 0 → XI p l e R s m args below meth c D A nL cl sl Q tgt lv S w) (h2 : ¬ x = 0 → XI p l e R s m args below meth c D A nL cl sl Q (pc + 3) lv S w) : XI p l e R s m args below meth c D A nL cl sl Q pc lv (.int x :: S) w := by
  obtain ⟨hx, hb, -⟩ := C
  intro H locs ls hP hD hS hl
  exact lv_if_eq hx hb hd ht (fun q => h1 q H locs ls hP hD hS hl) (fun q => h2 q H locs ls hP hD hS hl)
theorem xi_ifne (C : Ki p s m args meth c D kA A nL own cc nm) {x : Int32} {off : Int} (tgt : Nat) (hd : decode cc pc = .ok (.ifCond .ne off, 3)) (ht : (pc : Int) + off = (tgt : Int)) (h1 : ¬ x = 0 → XI p l e R s m args below meth c D A nL cl sl Q tgt lv S w) (h2 : x = 0 → XI p l e R s m args below meth c D A nL cl sl Q (pc + 3) lv S w) : XI p l e R s m args below meth c D A nL cl sl Q pc lv (.int x :: S) w := by
  obtain ⟨hx, hb, -⟩ := C
  intro H locs ls hP hD hS hl
  exact lv_if_ne hx hb hd ht (fun q => h1 q H locs ls hP hD hS hl) (fun q => h2 q H locs ls hP hD hS hl)
theorem xi_lv (ks : List Nat) {lv2 : List (Nat × Value)} (he : lv_pick lv ks = lv2) (h : XI p l e R s m args below meth c D A nL cl sl Q pc lv2 S w) : XI p l e R s m args below meth c D A nL cl sl Q pc lv S w := fun H locs ls hP hD hS hl => h H locs ls hP hD hS (lv_sub hl ks he)
theorem xi_sub (is : List Nat) {w2 : va_W} (hn : va_nd is = true) (e1 : is.filterMap (fun i => w[i]?) = w2) (e2 : is.map (fun i => w[i]?) = w2.map some) (h : XI p l e R s m args below meth c D A nL cl sl Q pc lv S w2) : XI p l e R s m args below meth c D A nL cl sl Q pc lv S w := fun H locs ls hP hD hS hl => h H locs ls (hP.sub is e1) (hD.sub is hn e2) hS hl
end LPS
/-- Arrays.fill of longs -/
theorem i_fill {l : Launch} {D : va_G} {kA : Nat → ClassId} {a n : Nat} {v : Int64} {f : Nat → Int64} (hn : n < 2147483647) : CtI l D kA (mY MJ7_fill_d0a16) (mC MJ7_fill_d0a16) (mL MJ7_fill_d0a16) 0 [.ref a, .long v] [(a, .inl (kA 2, n, .inr (.inl f)))] 0 0 (fun w1 => ∃ f2 : Nat → Int64, (∀ j, j < n → f2 j = v) ∧ w1 = [(a, .inl (kA 2, n, .inr (.inl f2)))]) := by
  refine mk_I (own := 17) (by decide +kernel) rfl (Nat.le_of_ble_eq_true rfl) ?_
  intro p e s m args below meth c A C hA hr
  refine xi_iconst C 0 dJ7_fill_d0a16_0 rfl ?_
  refine xi_istore C 3 (lv2 := [(3, .int 0), (0, .ref a), (1, .long v)]) dJ7_fill_d0a16_1 rfl (by decide) rfl ?_
  refine xi_aload C 0 1 dJ7_fill_d0a16_2 rfl rfl ?_
  refine xi_alenJ C (v := Int32.ofInt (n : Int)) 0 dJ7_fill_d0a16_3 rfl i_on ?_
  refine xi_istore4 C 4 (lv2 := [(4, .int (Int32.ofInt (n : Int))), (3, .int 0), (0, .ref a), (1, .long v)]) dJ7_fill_d0a16_4 (by decide) rfl ?_
  refine xi_lv [1, 0, 2, 3] (lv2 := [(3, .int (Int32.ofInt ((0 : Nat) : Int))), (4, .int (Int32.ofInt (n : Int))), (0, .ref a), (1, .long v)]) rfl ?_
  have key : ∀ r k : Nat, k + r = n → ∀ f2 : Nat → Int64, (∀ j, j < k → f2 j = v) → XI p l e (rI 0 0 0) s m args below meth c D A (mL MJ7_fill_d0a16) 0 0 (QI below D [(a, .inl (kA 2, n, .inr (.inl f)))] (fun w1 => ∃ f2 : Nat → Int64, (∀ j, j < n → f2 j = v) ∧ w1 = [(a, .inl (kA 2, n, .inr (.inl f2)))]) args s 0 0) 6 [(3, .int (Int32.ofInt (k : Int))), (4, .int (Int32.ofInt (n : Int))), (0, .ref a), (1, .long v)] [] [(a, .inl (kA 2, n, .inr (.inl f2)))] := by
    intro r
    induction r with
    | zero =>
      intro k hk f2 hf
      refine xi_iload C 3 0 dJ7_fill_d0a16_6 rfl rfl ?_
      refine xi_iload4 C 4 1 dJ7_fill_d0a16_7 rfl ?_
      refine xi_icmpge C 22 dJ7_fill_d0a16_9 rfl (fun _ => ?_) (fun q => absurd ((i_le (by omega) (by omega)).mpr (by omega)) q)
      exact xi_return C hA hr dJ7_fill_d0a16_22 (Nat.le_refl _) (Nat.le_refl _) ⟨f2, fun j hj => hf j (by omega), rfl⟩
    | succ r ih =>
      intro k hk f2 hf
      refine xi_iload C 3 0 dJ7_fill_d0a16_6 rfl rfl ?_
      refine xi_iload4 C 4 1 dJ7_fill_d0a16_7 rfl ?_
      refine xi_icmpge C 22 dJ7_fill_d0a16_9 rfl (fun q => absurd ((i_le (by omega) (by omega)).mp q) (by omega)) (fun _ => ?_)
      refine xi_aload C 0 2 dJ7_fill_d0a16_12 rfl rfl ?_
      refine xi_iload C 3 0 dJ7_fill_d0a16_13 rfl rfl ?_
      refine xi_lload C 1 3 dJ7_fill_d0a16_14 rfl rfl ?_
      refine xi_last C 0 dJ7_fill_d0a16_15 rfl (i_in (by omega) (by omega)) ?_
      refine xi_iinc C 3 0 (Int32.ofInt ((k + 1 : Nat) : Int)) (lv2 := [(3, .int (Int32.ofInt ((k + 1 : Nat) : Int))), (4, .int (Int32.ofInt (n : Int))), (0, .ref a), (1, .long v)]) dJ7_fill_d0a16_16 rfl (i_s (by omega)) (by decide) rfl ?_
      refine xi_goto C 6 dJ7_fill_d0a16_19 rfl ?_
      refine ih (k + 1) (by omega) (vp_updL f2 (Int32.ofInt (k : Int)).toNatClampNeg v) (fun j hj => ?_)
      rw [i_cl (by omega)]
      unfold vp_updL
      by_cases q : j = k
      · rw [if_pos q]
      · rw [if_neg q]
        exact hf j (by omega)
  exact key n 0 (by omega) f (fun j hj => absurd hj (Nat.not_lt_zero j))
/-- the reference's empty row -/
theorem i_begins {l : Launch} {D : va_G} {kA : Nat → ClassId} {a : Nat} {f : Nat → Int32} : CtI l D kA (mY MX11_begins) (mC MX11_begins) (mL MX11_begins) 0 [.ref a] [(a, .inl (kA 1, 181, .inl f))] 0 0 (fun w1 => ∃ f2 : Nat → Int32, (∀ j, j < 181 → f2 j = if 156 ≤ j then 1 else 0) ∧ w1 = [(a, .inl (kA 1, 181, .inl f2))]) := by
  refine mk_I (own := 11) (by decide +kernel) rfl (Nat.le_of_ble_eq_true rfl) ?_
  intro p e s m args below meth c A C hA hr
  refine xi_iconst C (Int32.ofInt ((0 : Nat) : Int)) dX11_begins_0 rfl ?_
  refine xi_istore C 1 (lv2 := [(1, .int (Int32.ofInt ((0 : Nat) : Int))), (0, .ref a)]) dX11_begins_1 rfl (by decide) rfl ?_
  have key : ∀ r k : Nat, k + r = 181 → ∀ f2 : Nat → Int32, (∀ j, j < k → f2 j = if 156 ≤ j then 1 else 0) → XI p l e (rI 0 0 0) s m args below meth c D A (mL MX11_begins) 0 0 (QI below D [(a, .inl (kA 1, 181, .inl f))] (fun w1 => ∃ f2 : Nat → Int32, (∀ j, j < 181 → f2 j = if 156 ≤ j then 1 else 0) ∧ w1 = [(a, .inl (kA 1, 181, .inl f2))]) args s 0 0) 2 [(1, .int (Int32.ofInt (k : Int))), (0, .ref a)] [] [(a, .inl (kA 1, 181, .inl f2))] := by
    intro r
    induction r with
    | zero =>
      intro k hk f2 hf
      refine xi_iload C 1 0 dX11_begins_2 rfl rfl ?_
      refine xi_sipush C (Int32.ofInt ((181 : Nat) : Int)) dX11_begins_3 rfl ?_
      refine xi_icmpge C 30 dX11_begins_6 rfl (fun _ => ?_) (fun q => absurd ((i_le (by omega) (by omega)).mpr (by omega)) q)
      exact xi_return C hA hr dX11_begins_30 (Nat.le_refl _) (Nat.le_refl _) ⟨f2, fun j hj => hf j (by omega), rfl⟩
    | succ r ih =>
      intro k hk f2 hf
      have tail : ∀ x : Int32, x = (if 156 ≤ k then 1 else 0) → XI p l e (rI 0 0 0) s m args below meth c D A (mL MX11_begins) 0 0 (QI below D [(a, .inl (kA 1, 181, .inl f))] (fun w1 => ∃ f2 : Nat → Int32, (∀ j, j < 181 → f2 j = if 156 ≤ j then 1 else 0) ∧ w1 = [(a, .inl (kA 1, 181, .inl f2))]) args s 0 0) 23 [(1, .int (Int32.ofInt (k : Int))), (0, .ref a)] [.int x, .int (Int32.ofInt (k : Int)), .ref a] [(a, .inl (kA 1, 181, .inl f2))] := by
        intro x hx
        refine xi_iast C 0 dX11_begins_23 rfl (i_in (by omega) (by omega)) ?_
        refine xi_iinc C 1 0 (Int32.ofInt ((k + 1 : Nat) : Int)) (lv2 := [(1, .int (Int32.ofInt ((k + 1 : Nat) : Int))), (0, .ref a)]) dX11_begins_24 rfl (i_s (by omega)) (by decide) rfl ?_
        refine xi_goto C 2 dX11_begins_27 rfl ?_
        refine ih (k + 1) (by omega) (upd f2 (Int32.ofInt (k : Int)).toNatClampNeg x) (fun j hj => ?_)
        rw [i_cl (by omega)]
        unfold upd
        by_cases q : j = k
        · rw [if_pos q, q, hx]
        · rw [if_neg q]
          exact hf j (by omega)
      refine xi_iload C 1 0 dX11_begins_2 rfl rfl ?_
      refine xi_sipush C (Int32.ofInt ((181 : Nat) : Int)) dX11_begins_3 rfl ?_
      refine xi_icmpge C 30 dX11_begins_6 rfl (fun q => absurd ((i_le (by omega) (by omega)).mp q) (by omega)) (fun _ => ?_)
      refine xi_aload C 0 1 dX11_begins_9 rfl rfl ?_
      refine xi_iload C 1 0 dX11_begins_10 rfl rfl ?_
      refine xi_iload C 1 0 dX11_begins_11 rfl rfl ?_
      refine xi_sipush C (Int32.ofInt ((156 : Nat) : Int)) dX11_begins_12 rfl ?_
      refine xi_icmplt C 22 dX11_begins_15 rfl (fun q => ?_) (fun q => ?_)
      · have q2 := (i_lt (by omega) (by omega)).mp q
        refine xi_iconst C 0 dX11_begins_22 rfl ?_
        exact tail 0 (by rw [if_neg (by omega)])
      · have q2 : ¬ k < 156 := fun z => q ((i_lt (by omega) (by omega)).mpr z)
        refine xi_iconst C 1 dX11_begins_18 rfl ?_
        refine xi_goto C 23 dX11_begins_19 rfl ?_
        exact tail 1 (by rw [if_pos (by omega)])
  exact key 181 0 (by omega) f (fun j hj => absurd hj (Nat.not_lt_zero j))
/-- the reference's row copied -/
theorem i_copies {l : Launch} {D : va_G} {kA : Nat → ClassId} {a b : Nat} {f g : Nat → Int32} : CtI l D kA (mY MX11_copies) (mC MX11_copies) (mL MX11_copies) 0 [.ref a, .ref b] [(a, .inl (kA 1, 181, .inl f)), (b, .inl (kA 1, 181, .inl g))] 0 0 (fun w1 => ∃ g2 : Nat → Int32, (∀ j, j < 181 → g2 j = f j) ∧ w1 = [(a, .inl (kA 1, 181, .inl f)), (b, .inl (kA 1, 181, .inl g2))]) := by
  refine mk_I (own := 11) (by decide +kernel) rfl (Nat.le_of_ble_eq_true rfl) ?_
  intro p e s m args below meth c A C hA hr
  refine xi_iconst C (Int32.ofInt ((0 : Nat) : Int)) dX11_copies_0 rfl ?_
  refine xi_istore C 2 (lv2 := [(2, .int (Int32.ofInt ((0 : Nat) : Int))), (0, .ref a), (1, .ref b)]) dX11_copies_1 rfl (by decide) rfl ?_
  have key : ∀ r k : Nat, k + r = 181 → ∀ g2 : Nat → Int32, (∀ j, j < k → g2 j = f j) → XI p l e (rI 0 0 0) s m args below meth c D A (mL MX11_copies) 0 0 (QI below D [(a, .inl (kA 1, 181, .inl f)), (b, .inl (kA 1, 181, .inl g))] (fun w1 => ∃ g2 : Nat → Int32, (∀ j, j < 181 → g2 j = f j) ∧ w1 = [(a, .inl (kA 1, 181, .inl f)), (b, .inl (kA 1, 181, .inl g2))]) args s 0 0) 2 [(2, .int (Int32.ofInt (k : Int))), (0, .ref a), (1, .ref b)] [] [(a, .inl (kA 1, 181, .inl f)), (b, .inl (kA 1, 181, .inl g2))] := by
    intro r
    induction r with
    | zero =>
      intro k hk g2 hf
      refine xi_iload C 2 0 dX11_copies_2 rfl rfl ?_
      refine xi_sipush C (Int32.ofInt ((181 : Nat) : Int)) dX11_copies_3 rfl ?_
      refine xi_icmpge C 21 dX11_copies_6 rfl (fun _ => ?_) (fun q => absurd ((i_le (by omega) (by omega)).mpr (by omega)) q)
      exact xi_return C hA hr dX11_copies_21 (Nat.le_refl _) (Nat.le_refl _) ⟨g2, fun j hj => hf j (by omega), rfl⟩
    | succ r ih =>
      intro k hk g2 hf
      refine xi_iload C 2 0 dX11_copies_2 rfl rfl ?_
      refine xi_sipush C (Int32.ofInt ((181 : Nat) : Int)) dX11_copies_3 rfl ?_
      refine xi_icmpge C 21 dX11_copies_6 rfl (fun q => absurd ((i_le (by omega) (by omega)).mp q) (by omega)) (fun _ => ?_)
      refine xi_aload C 1 2 dX11_copies_9 rfl rfl ?_
      refine xi_iload C 2 0 dX11_copies_10 rfl rfl ?_
      refine xi_aload C 0 1 dX11_copies_11 rfl rfl ?_
      refine xi_iload C 2 0 dX11_copies_12 rfl rfl ?_
      refine xi_iald C 0 dX11_copies_13 rfl (i_in (by omega) (by omega)) ?_
      refine xi_iast C 1 dX11_copies_14 rfl (i_in (by omega) (by omega)) ?_
      refine xi_iinc C 2 0 (Int32.ofInt ((k + 1 : Nat) : Int)) (lv2 := [(2, .int (Int32.ofInt ((k + 1 : Nat) : Int))), (0, .ref a), (1, .ref b)]) dX11_copies_15 rfl (i_s (by omega)) (by decide) rfl ?_
      refine xi_goto C 2 dX11_copies_18 rfl ?_
      refine ih (k + 1) (by omega) (upd g2 (Int32.ofInt (k : Int)).toNatClampNeg (f (Int32.ofInt (k : Int)).toNatClampNeg)) (fun j hj => ?_)
      rw [i_cl (by omega)]
      unfold upd
      by_cases q : j = k
      · rw [if_pos q, q]
      · rw [if_neg q]
        exact hf j (by omega)
  exact key 181 0 (by omega) g (fun j hj => absurd hj (Nat.not_lt_zero j))
