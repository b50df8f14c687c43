/-! RANKS of purses and the bits of those met -/
theorem wyN_pos : ∀ r m, 1 ≤ wyN r m := by
  intro r
  induction r with
  | zero => intro m; rw [wyN_0]; exact Nat.le_refl 1
  | succ r ih =>
    intro m
    cases m with
    | zero => rw [wyN_z]; exact Nat.le_refl 1
    | succ m => rw [wyN_s]; have := ih (m + 1); omega
theorem wyN_r (r m : Nat) : wyN r m ≤ wyN (r + 1) m := by
  cases m with
  | zero => rw [wyN_z, wyN_z]; exact Nat.le_refl 1
  | succ m => rw [wyN_s]; omega
theorem wyN_mono {r s : Nat} (m : Nat) (h : r ≤ s) : wyN r m ≤ wyN s m := by
  induction s with
  | zero => rw [show r = 0 by omega]; exact Nat.le_refl _
  | succ s ih =>
    by_cases e : r = s + 1
    · rw [e]; exact Nat.le_refl _
    · exact Nat.le_trans (ih (by omega)) (wyN_r s m)
/-- how many rooms hold: r to r - x -/
def rkG (v : Nat → Nat) : Nat → Nat → Nat → Nat
  | 0, _, _ => 0
  | m + 1, c, r => (wyN r (m + 1) - wyN (r - v c) (m + 1)) + rkG v m (c + 1) (r - v c)
theorem rkG_s (v : Nat → Nat) (m c r : Nat) : rkG v (m + 1) c r = (wyN r (m + 1) - wyN (r - v c) (m + 1)) + rkG v m (c + 1) (r - v c) := rfl
def smG (v : Nat → Nat) : Nat → Nat → Nat
  | 0, _ => 0
  | m + 1, c => v c + smG v m (c + 1)
theorem smG_s (v : Nat → Nat) (m c : Nat) : smG v (m + 1) c = v c + smG v m (c + 1) := rfl
theorem rkG_lt (v : Nat → Nat) : ∀ m c r, smG v m c ≤ r → rkG v m c r < wyN r m := by
  intro m
  induction m with
  | zero => intro c r _; rw [wyN_z]; exact Nat.one_pos
  | succ m ih =>
    intro c r h
    rw [smG_s] at h
    rw [rkG_s]
    have h1 := ih (c + 1) (r - v c) (by omega)
    have h2 : wyN (r - v c) m ≤ wyN (r - v c) (m + 1) := by
      cases hr : r - v c with
      | zero => rw [wyN_0, wyN_0]; exact Nat.le_refl 1
      | succ s => rw [wyN_s]; omega
    have h3 := wyN_mono (m + 1) (show r - v c ≤ r by omega)
    omega
theorem rkG_inj (v u : Nat → Nat) : ∀ m c r, smG v m c ≤ r → smG u m c ≤ r → rkG v m c r = rkG u m c r → ∀ i, c ≤ i → i < c + m → v i = u i := by
  intro m
  induction m with
  | zero => intro c r _ _ _ i h1 h2; omega
  | succ m ih =>
    intro c r hv hu he i h1 h2
    rw [smG_s] at hv hu
    rw [rkG_s, rkG_s] at he
    have step : ∀ (a b : Nat → Nat), a c + smG a m (c + 1) ≤ r → b c + smG b m (c + 1) ≤ r → a c < b c → (wyN r (m + 1) - wyN (r - a c) (m + 1)) + rkG a m (c + 1) (r - a c) < (wyN r (m + 1) - wyN (r - b c) (m + 1)) + rkG b m (c + 1) (r - b c) := by
      intro a b ha hb hlt
      have l1 := rkG_lt a m (c + 1) (r - a c) (by omega)
      have l2 : wyN (r - a c) (m + 1) = wyN (r - a c - 1) (m + 1) + wyN (r - a c) m := by
        have := wyN_s (r - a c - 1) m
        rw [show r - a c - 1 + 1 = r - a c by omega] at this
        exact this
      have l3 := wyN_mono (m + 1) (show r - b c ≤ r - a c - 1 by omega)
      have l4 := wyN_mono (m + 1) (show r - a c ≤ r by omega)
      omega
    have hc : v c = u c := by
      by_cases q1 : v c < u c
      · have := step v u hv hu q1; omega
      · by_cases q2 : u c < v c
        · have := step u v hu hv q2; omega
        · omega
    by_cases e : i = c
    · rw [e]; exact hc
    · rw [hc] at he
      refine ih (c + 1) (r - u c) (by omega) (by omega) (by omega) i (by omega) (by omega)
theorem smG_sum (v : Nat → Nat) : ∀ m c, smG v m c = sumN (fun i => v (c + i)) m := by
  intro m
  induction m with
  | zero => intro c; rfl
  | succ m ih =>
    intro c
    rw [smG_s, ih, sumN_l, Nat.add_zero]
    congr 1
    exact sumN_congr (fun i _ => by rw [show c + 1 + i = c + (i + 1) by omega])
def rkD (D : Nat) : Nat := rkG (dg D) 8 0 9
theorem smG_D {N : Tn} {D : Nat} (h : okD N D) : smG (dg D) 8 0 ≤ 9 := by
  rw [smG_sum, sumN_congr (g := dg D) (fun i _ => by rw [Nat.zero_add])]
  exact h.2.2
theorem wy_tab : ∀ r : Fin 10, ∀ m : Fin 9, wyN r.val m.val ≤ 24310 := by decide +kernel
theorem rkD_lt {N : Tn} {D : Nat} (h : okD N D) : rkD D < 24310 := Nat.lt_of_lt_of_le (rkG_lt (dg D) 8 0 9 (smG_D h)) (wy_tab ⟨9, by decide⟩ ⟨8, by decide⟩)
theorem rkD_inj {N : Tn} {D E : Nat} (h : okD N D) (g : okD N E) (e : rkD D = rkD E) : D = E := code_ext h.1 g.1 (fun c hc => rkG_inj (dg D) (dg E) 8 0 9 (smG_D h) (smG_D g) e c (Nat.zero_le c) (by omega))
/-- the table of the ways in cell 62 -/
def wyT (ω : Nat → Int) : Prop := ∀ r m, r ≤ 9 → m ≤ 8 → ω (9 * r + m) = (wyN r m : Int)
theorem w_wy {r c : Nat} (hr : r ≤ 9) (hc : c < 8) : w32 (w32 (w32 ((r : Int) * 9) + 8) - (c : Int)) = ((9 * r + (8 - c) : Nat) : Int) := by unfold w32; omega
theorem w_sb {a b : Nat} (h : a ≤ b) (hb : b < 2147483648) : w32 ((b : Int) - (a : Int)) = ((b - a : Nat) : Int) := by unfold w32; omega
set_option maxRecDepth 20000 in
theorem ctX6_rankOf {d : Nat} {N : Tn} {D : Nat} {σ : Sg} (hd : 2 ≤ d) (hD : okD N D) (hw : wyT (σ 62)) : Ct d MX6_rankOf [rV 15 57, iV (w32 (pkc D : Int))] σ (.inl [iV (rkD D : Int)]) σ := by
  refine (eX6_rankOf (d := 1) ?_).mono hd
  intro X Xr Xt hC hr
  refine bX6_rankOf_0 hC ?_
  have hsm := smG_D hD
  have hrl := rkD_lt hD
  have key : ∀ m c r x : Nat, c + m = 8 → r ≤ 9 → smG (dg D) m c ≤ r → x + rkG (dg D) m c r = rkD D → X 8 [rV 15 57, iV (w32 (pkc D : Int)), iV (x : Int), iV (r : Int), iV (c : Int), uV] [] σ := by
    intro m
    induction m with
    | zero =>
      intro c r x hc hr9 hs he
      have hc : c = 8 := hc
      have he : x = rkD D := he
      refine bX6_rankOf_8 hC ?_
      rw [if_neg (by omega), he]
      exact hr
    | succ m ih =>
      intro c r x hc hr9 hs he
      rw [smG_s] at hs
      rw [rkG_s] at he
      refine bX6_rankOf_8 hC ?_
      have hof := ctX6_often (d := 1) (P := pkc D) (c := c) (σ := σ) (by decide) (pkc_lt D) (by omega)
      rw [pkc_dg D (by omega)] at hof
      have hd9 : dg D c ≤ 9 := dg_le
      have t1 := hw r (8 - c) hr9 (by omega)
      have t2 := hw (r - dg D c) (8 - c) (by omega) (by omega)
      have t3 := wy_tab ⟨r, by omega⟩ ⟨8 - c, by omega⟩
      have t3 : wyN r (8 - c) ≤ 24310 := t3
      have t4 := wyN_mono (8 - c) (show r - dg D c ≤ r by omega)
      rw [show m + 1 = 8 - c by omega] at he
      rw [if_pos (by omega)]
      refine ⟨_, hof, ?_⟩
      rw [w_sb (show dg D c ≤ r by omega) (by omega), show max ((r - dg D c : Nat) : Int) 0 = ((r - dg D c : Nat) : Int) by omega, w_wy hr9 (by omega), w_wy (show r - dg D c ≤ 9 by omega) (by omega), Int.toNat_natCast, Int.toNat_natCast, t1, t2]
      clear t1 t2 hof
      rw [w_sb t4 (by omega), ← Int.natCast_add, w32_n (show x + (wyN r (8 - c) - wyN (r - dg D c) (8 - c)) < 2147483648 by omega), w32_s (show c < 2147483647 by omega)]
      exact ⟨by omega, by omega, ih (c + 1) (r - dg D c) _ (by omega) (by omega) (by omega) (by omega)⟩
  exact key 8 0 9 0 rfl (Nat.le_refl 9) hsm (Nat.zero_add _)
/-! bits of 64-bit words -/
def wb (x : Int) : BitVec 64 := BitVec.ofInt 64 x
theorem one_shl {b : Nat} (hb : b < 64) : (Int64.ofInt (lshlI 1 (b : Int))).toBitVec = BitVec.twoPow 64 b := by
  unfold lshlI
  rw [Int64.ofInt_toInt]
  show (Int64.ofInt 1 <<< ((Int32.ofInt (b : Int)).toInt64 &&& 63)).toBitVec = _
  rw [Int64.toBitVec_shiftLeft, sh32l hb, BitVec.shiftLeft_eq', BitVec.toNat_ofNat, Nat.mod_eq_of_lt (by omega : b < 2 ^ 64), BitVec.shiftLeft_eq_mul_twoPow]
  have : (Int64.ofInt 1).toBitVec = 1#64 := by decide
  rw [this, BitVec.one_mul]
theorem bit_0 {x : Int} {b : Nat} (hb : b < 64) : landI x (lshlI 1 (b : Int)) = 0 ↔ (wb x).getLsbD b = false := by
  unfold landI
  have e : ((Int64.ofInt x &&& Int64.ofInt (lshlI 1 (b : Int))).toBitVec) = if (wb x).getLsbD b then BitVec.twoPow 64 b else 0#64 := by
    rw [Int64.toBitVec_and, one_shl hb, BitVec.and_twoPow]
    rfl
  show ((Int64.ofInt x &&& Int64.ofInt (lshlI 1 (b : Int))).toBitVec).toInt = 0 ↔ _
  rw [e]
  cases h : (wb x).getLsbD b with
  | false => exact ⟨fun _ => rfl, fun _ => rfl⟩
  | true =>
    refine ⟨fun q => ?_, fun q => Bool.noConfusion q⟩
    exfalso
    have q : (BitVec.twoPow 64 b).toInt = 0 := q
    have z : BitVec.twoPow 64 b = 0#64 := BitVec.eq_of_toInt_eq q
    have := BitVec.getLsbD_twoPow (w := 64) b b
    rw [z] at this
    rw [decide_eq_true hb, decide_eq_true rfl] at this
    rw [BitVec.getLsbD_zero] at this
    exact Bool.noConfusion this
theorem bit_or {x : Int} {b i : Nat} (hb : b < 64) (hi : i < 64) : (wb (lorI x (lshlI 1 (b : Int)))).getLsbD i = ((wb x).getLsbD i || decide (b = i)) := by
  unfold lorI
  have e : wb ((Int64.ofInt x ||| Int64.ofInt (lshlI 1 (b : Int))).toInt) = (Int64.ofInt x ||| Int64.ofInt (lshlI 1 (b : Int))).toBitVec := by
    show BitVec.ofInt 64 ((Int64.ofInt x ||| Int64.ofInt (lshlI 1 (b : Int))).toBitVec.toInt) = _
    exact BitVec.ofInt_toInt
  rw [e, Int64.toBitVec_or, one_shl hb, BitVec.getLsbD_or, BitVec.getLsbD_twoPow, decide_eq_true hb, Bool.true_and]
  rfl
theorem bit_z {b : Nat} : (wb 0).getLsbD b = false := by
  show (BitVec.ofInt 64 0).getLsbD b = false
  have : BitVec.ofInt 64 0 = 0#64 := by decide
  rw [this]
  exact BitVec.getLsbD_zero
