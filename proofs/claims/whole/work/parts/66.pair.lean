/-! PAIRS: order, friends -/
theorem ph_N : ∀ n (f : Nat → Nat), (∀ i, i ≤ n → f i < n) → ∃ i j, i < j ∧ j ≤ n ∧ f i = f j := by
  intro n
  induction n with
  | zero => intro f h; exact absurd (h 0 (Nat.le_refl 0)) (Nat.not_lt_zero _)
  | succ n ih =>
    intro f h
    by_cases ex : ∃ i, i ≤ n ∧ f i = f (n + 1)
    · obtain ⟨i, h1, h2⟩ := ex
      exact ⟨i, n + 1, by omega, Nat.le_refl _, h2⟩
    · have hv : ∀ i, i ≤ n → f i ≠ f (n + 1) := fun i hi e => ex ⟨i, hi, e⟩
      obtain ⟨i, j, h1, h2, h3⟩ := ih (fun i => if f i = n then f (n + 1) else f i) (by
        intro i hi
        have a := h i (by omega)
        have b := h (n + 1) (by omega)
        have c := hv i hi
        show (if f i = n then f (n + 1) else f i) < n
        split <;> omega)
      refine ⟨i, j, h1, by omega, ?_⟩
      have a1 := hv i (by omega)
      have a2 := hv j h2
      have h3 : (if f i = n then f (n + 1) else f i) = (if f j = n then f (n + 1) else f j) := h3
      by_cases b1 : f i = n
      · by_cases b2 : f j = n
        · rw [b1, b2]
        · rw [if_pos b1, if_neg b2] at h3
          exact absurd h3.symm a2
      · by_cases b2 : f j = n
        · rw [if_neg b1, if_pos b2] at h3
          exact absurd h3 a1
        · rw [if_neg b1, if_neg b2] at h3
          exact h3
theorem or_ex {a n : Nat} (hn : 2 ≤ n) (hg : Nat.Coprime a n) : ∃ e, 1 ≤ e ∧ e ≤ n ∧ a ^ e % n = 1 := by
  obtain ⟨i, j, h1, h2, h3⟩ := ph_N n (fun i => a ^ i % n) (fun i _ => Nat.mod_lt _ (by omega))
  have h3 : a ^ j % n = a ^ i % n := h3.symm
  have hd := Nat.dvd_of_mod_eq_zero (Nat.sub_mod_eq_zero_of_mod_eq h3)
  have e1 : a ^ j = a ^ i * a ^ (j - i) := by rw [← Nat.pow_add]; congr 1; omega
  have e2 : a ^ j - a ^ i = a ^ i * (a ^ (j - i) - 1) := by rw [Nat.mul_sub, ← e1, Nat.mul_one]
  rw [e2] at hd
  obtain ⟨c, hc⟩ := Nat.Coprime.dvd_of_dvd_mul_left (Nat.Coprime.symm (Nat.Coprime.pow_left i hg)) hd
  refine ⟨j - i, by omega, by omega, ?_⟩
  have ha : 0 < a ^ (j - i) := by
    refine Nat.pow_pos ?_
    by_cases z : a = 0
    · rw [z] at hg
      have := Nat.coprime_zero_left n
      rw [this] at hg
      omega
    · omega
  rw [show a ^ (j - i) = 1 + n * c by omega, Nat.add_mul_mod_self_left]
  exact Nat.mod_eq_of_lt (by omega)
theorem or_no {a n e : Nat} (he : 1 ≤ e) (hg : ¬ Nat.gcd a n = 1) : ¬ a ^ e % n = 1 := by
  intro h
  have d1 : Nat.gcd a n ∣ a ^ e := Nat.dvd_trans (Nat.gcd_dvd_left a n) (Nat.dvd_trans (Nat.dvd_refl a) (by rw [show e = (e - 1) + 1 by omega, Nat.pow_succ]; exact Nat.dvd_mul_left a _))
  have d2 : Nat.gcd a n ∣ a ^ e % n := (Nat.dvd_mod_iff (Nat.gcd_dvd_right a n)).mpr d1
  rw [h] at d2
  exact hg (Nat.dvd_one.mp d2)
def orG (a n : Nat) : Nat → Nat → Int
  | 0, _ => -1
  | f + 1, e => if a ^ e % n = 1 then (e : Int) else orG a n f (e + 1)
theorem orG_s (a n f e : Nat) : orG a n (f + 1) e = if a ^ e % n = 1 then (e : Int) else orG a n f (e + 1) := rfl
theorem orG_no {a n : Nat} (hg : ¬ Nat.gcd a n = 1) : ∀ f e, 1 ≤ e → orG a n f e = -1 := by
  intro f
  induction f with
  | zero => intro e _; rfl
  | succ f ih => intro e he; rw [orG_s, if_neg (or_no he hg)]; exact ih (e + 1) (by omega)
theorem orG_ex {a n x : Nat} (hx : a ^ x % n = 1) : ∀ f e, e ≤ x → x < e + f → ¬ orG a n f e = -1 := by
  intro f
  induction f with
  | zero => intro e h1 h2; omega
  | succ f ih =>
    intro e h1 h2
    rw [orG_s]
    by_cases c : a ^ e % n = 1
    · rw [if_pos c]; omega
    · rw [if_neg c]
      refine ih (e + 1) ?_ (by omega)
      by_cases q : e = x
      · rw [q] at c; exact absurd hx c
      · omega
theorem or_step {a n e : Nat} (ha : a < n) (hn : n ≤ 10000) : (w32 (((a ^ e % n : Nat) : Int) * (a : Int))).tmod (n : Int) = ((a ^ (e + 1) % n : Nat) : Int) := by
  have h1 := Nat.mod_lt (a ^ e) (show n > 0 by omega)
  have h2 : a ^ e % n * a ≤ 10000 * 10000 := Nat.mul_le_mul (by omega) (by omega)
  rw [← Int.natCast_mul, w32_n (by omega), tmod_nat, Nat.pow_succ, Nat.mod_mul_mod]
theorem jt_order {ω : Nat → Int} {σ : Sg} (hI : Inv ω σ) (x y : Int) : Jt ω MX10_order MX11_order [iV x, iV y] iV cdI σ := by
  obtain ⟨N, hQ⟩ := hI.1
  have hW := hQ.2.2
  have h5 := hW.1.2.1
  have h8 := hW.1.1
  by_cases g : 2 ≤ y ∧ y ≤ 10000
  · have ey : w32 (y - 1) = y - 1 := by unfold w32; omega
    by_cases h : 1 ≤ x ∧ x ≤ y - 1
    · obtain ⟨a, hx⟩ := z_nat (show 0 ≤ x by omega)
      obtain ⟨n, hy⟩ := z_nat (show 0 ≤ y by omega)
      subst hx
      subst hy
      have han : a < n := by omega
      have hn0 : n ≤ 10000 := by omega
      obtain ⟨V, hV⟩ : ∃ V : Int, V = orG a n n 1 := ⟨_, rfl⟩
      refine Or.inl ⟨V, σ, ?_, ?_⟩
      · refine (eX10_order (d := 5) ?_).mono (by decide)
        intro X Xr Xt hC hr
        refine bX10_order_0 hC ?_
        rw [if_neg (by omega), if_neg (by omega), if_neg (by omega), if_pos (by omega)]
        have key : ∀ f e : Nat, e + f = n + 1 → 1 ≤ e → ∀ z : Nat, z = a ^ e % n → orG a n f e = V → X 38 [rV 19 0, iV (a : Int), iV (n : Int), iV (z : Int), iV (e : Int)] [] σ := by
          intro f
          induction f with
          | zero =>
            intro e he h1 z hz ho
            refine bX10_order_38 hC ?_
            have he : e = n + 1 := he
            rw [if_pos (by omega)]
            rw [← ho] at hr
            exact hr
          | succ f ih =>
            intro e he h1 z hz ho
            rw [orG_s] at ho
            refine bX10_order_38 hC ?_
            rw [if_neg (by omega)]
            by_cases c : a ^ e % n = 1
            · rw [if_pos c] at ho
              rw [if_pos (by omega)]
              rw [← ho] at hr
              exact hr
            · rw [if_neg c] at ho
              rw [if_neg (by omega), hz, or_step han hn0, w32_s (by omega)]
              exact ⟨by omega, ih (e + 1) (by omega) (by omega) _ rfl ho⟩
        exact key n 1 (by omega) (by omega) a (by rw [Nat.pow_one, Nat.mod_eq_of_lt han]) hV.symm
      · intro τ ha
        have hM0 := (InvN_ag hQ ha).2.1
        have hM : ∀ v, RowM (upS τ 66 5 v) 67 0 N := fun v => RowM_ups hM0 (by decide)
        refine ⟨upS τ 66 5 0, ?_, ups_eq, Inv_fr hI (th_fr ha)⟩
        refine (eX11_order (d := 5) ?_).mono (by decide)
        intro X Xr Xt hC hr
        refine bX11_order_0 hC ?_
        refine ⟨_, ctX11_wi (by decide) g, ?_⟩
        rw [if_neg (by decide), ey]
        refine ⟨_, ctX11_wi (by decide) h, ?_⟩
        rw [if_neg (by decide), ups_eq, if_neg (by decide)]
        refine ⟨_, ctX11_shared (by decide), ?_⟩
        by_cases hg : Nat.gcd a n = 1
        · rw [if_pos (by rw [hg]; rfl)]
          obtain ⟨x0, q1, q2, q3⟩ := or_ex (show 2 ≤ n by omega) hg
          have hV1 : ¬ V = -1 := by rw [hV]; exact orG_ex q3 n 1 q1 (by omega)
          have key : ∀ f e : Nat, e + f = n + 1 → 1 ≤ e → ∀ z : Nat, z = a ^ e % n → orG a n f e = V → X 64 [rV 20 66, iV (a : Int), iV (n : Int), iV (e : Int), iV (z : Int)] [] (upS τ 66 5 0) := by
            intro f
            induction f with
            | zero => intro e he h1 z hz ho; exact absurd ho.symm hV1
            | succ f ih =>
              intro e he h1 z hz ho
              rw [orG_s] at ho
              refine bX11_order_64 hC ?_
              by_cases c : a ^ e % n = 1
              · rw [if_pos c] at ho
                rw [if_pos (by omega)]
                rw [← ho] at hr
                exact hr
              · rw [if_neg c] at ho
                rw [if_neg (by omega), hz, or_step han hn0, w32_s (by omega)]
                exact ⟨by omega, ih (e + 1) (by omega) (by omega) _ rfl ho⟩
          exact key n 1 (by omega) (by omega) a (by rw [Nat.pow_one, Nat.mod_eq_of_lt han]) hV.symm
        · rw [if_neg (by omega)]
          rw [hV, orG_no hg n 1 (by omega)] at hr
          exact hr
    · refine Or.inr ⟨2, σ, by decide, ?_, ?_⟩
      · refine (eX10_order (d := 5) ?_).mono (by decide)
        intro X Xr Xt hC hr
        refine bX10_order_0 hC ?_
        rw [if_neg (by omega), if_neg (by omega)]
        by_cases c : x < 1
        · rw [if_pos c]; exact hr
        · rw [if_neg c, if_neg (by omega)]; exact hr
      · intro τ ha
        have hM0 := (InvN_ag hQ ha).2.1
        have hM : ∀ v, RowM (upS τ 66 5 v) 67 0 N := fun v => RowM_ups hM0 (by decide)
        refine ⟨0, upS τ 66 5 1, ?_, ups_eq, Inv_fr hI (th_fr ha)⟩
        refine (eX11_order (d := 5) ?_).mono (by decide)
        intro X Xr Xt hC hr
        refine bX11_order_0 hC ?_
        refine ⟨_, ctX11_wi (by decide) g, ?_⟩
        rw [if_neg (by decide), ey]
        refine ⟨_, ctX11_wi_no (by decide) h, ?_⟩
        rw [if_pos (by decide), ups_eq, if_pos (by decide)]
        exact hr
  · refine Or.inr ⟨2, σ, by decide, ?_, ?_⟩
    · refine (eX10_order (d := 5) ?_).mono (by decide)
      intro X Xr Xt hC hr
      refine bX10_order_0 hC ?_
      by_cases c : y < 2
      · rw [if_pos c]; exact hr
      · rw [if_neg c, if_pos (by omega)]; exact hr
    · intro τ ha
      have hM0 := (InvN_ag hQ ha).2.1
      have hM : ∀ v, RowM (upS τ 66 5 v) 67 0 N := fun v => RowM_ups hM0 (by decide)
      refine ⟨0, upS τ 66 5 1, ?_, ups_eq, Inv_fr hI (th_fr ha)⟩
      refine (eX11_order (d := 5) ?_).mono (by decide)
      intro X Xr Xt hC hr
      refine bX11_order_0 hC ?_
      refine ⟨_, ctX11_wi_no (by decide) g, ?_⟩
      rw [if_pos (by decide), ups_eq, if_pos (by decide)]
      exact hr
/-! bits of sets -/
theorem bitsN_or2 (f : Nat → Bool) (k : Nat) : bitsN f (k + 1) = bitsN f k ||| (if f k = true then 2 ^ k else 0) := by
  rw [bitsN_s]
  by_cases h : f k = true
  · rw [if_pos h, or_two_pow (bitsN_lt f k)]
  · rw [if_neg h, Nat.or_zero, Nat.add_zero]
theorem bitsN_tb (f : Nat → Bool) (i : Nat) : ∀ k, (bitsN f k).testBit i = (decide (i < k) && f i) := by
  intro k
  induction k with
  | zero => rw [show bitsN f 0 = 0 from rfl, Nat.zero_testBit, decide_eq_false (Nat.not_lt_zero i)]; rfl
  | succ k ih =>
    rw [bitsN_or2, Nat.testBit_or, ih]
    by_cases e : i = k
    · rw [decide_eq_false (show ¬ i < k by omega), decide_eq_true (show i < k + 1 by omega), e]
      by_cases h : f k = true
      · rw [if_pos h, Nat.testBit_two_pow, decide_eq_true rfl, h]; rfl
      · rw [if_neg h, Nat.zero_testBit, Bool.eq_false_iff.mpr h]; rfl
    · have hz : (if f k = true then 2 ^ k else 0 : Nat).testBit i = false := by
        by_cases h : f k = true
        · rw [if_pos h, Nat.testBit_two_pow]; exact decide_eq_false (fun q => e q.symm)
        · rw [if_neg h, Nat.zero_testBit]
      rw [hz, Bool.or_false]
      by_cases h : i < k
      · rw [decide_eq_true h, decide_eq_true (show i < k + 1 by omega)]
      · rw [decide_eq_false h, decide_eq_false (show ¬ i < k + 1 by omega)]
theorem bitsN_or (f g : Nat → Bool) (k : Nat) : bitsN f k ||| bitsN g k = bitsN (fun i => f i || g i) k := by
  apply Nat.eq_of_testBit_eq
  intro i
  rw [Nat.testBit_or, bitsN_tb, bitsN_tb, bitsN_tb]
  cases decide (i < k) <;> rfl
theorem bitsN_and (f g : Nat → Bool) (k : Nat) : bitsN f k &&& bitsN g k = bitsN (fun i => f i && g i) k := by
  apply Nat.eq_of_testBit_eq
  intro i
  rw [Nat.testBit_and, bitsN_tb, bitsN_tb, bitsN_tb]
  cases decide (i < k) <;> cases f i <;> rfl
theorem bitsN_0 (f : Nat → Bool) (k : Nat) : bitsN f k = 0 ↔ ∀ i, i < k → f i = false := by
  constructor
  · intro h i hi
    have := bitsN_tb f i k
    rw [h, Nat.zero_testBit, decide_eq_true hi, Bool.true_and] at this
    exact this.symm
  · intro h
    apply Nat.eq_of_testBit_eq
    intro i
    rw [bitsN_tb, Nat.zero_testBit]
    by_cases hi : i < k
    · rw [h i hi, Bool.and_false]
    · rw [decide_eq_false hi]; rfl
theorem bitsN_congr {f g : Nat → Bool} {k : Nat} (h : ∀ i, i < k → f i = g i) : bitsN f k = bitsN g k := by
  induction k with
  | zero => rfl
  | succ k ih => rw [bitsN_s, bitsN_s, ih (fun i hi => h i (by omega)), h k (by omega)]
def bt (s k : Nat) : Nat := s / 2 ^ k % 2
theorem bt_01 (s k : Nat) : bt s k = 0 ∨ bt s k = 1 := by unfold bt; omega
theorem bt_I {s k : Nat} (hs : s < 2147483648) (hk : k < 32) : iandI (ishrI (s : Int) (k : Int)) 1 = (bt s k : Int) := by
  have h1 := Nat.div_le_self s (2 ^ k)
  rw [ishr_nat hk hs]
  have := iand_nat (a := s / 2 ^ k) (b := 1) (Nat.lt_of_le_of_lt h1 hs) (by decide)
  rw [and1] at this
  exact this
def cnN (N : Tn) (s c : Nat) (k : Nat) : Nat := sumN (fun p => if bt s p = 1 ∧ 0 < hN N p c then 1 else 0) k
theorem cnN_s (N : Tn) (s c k : Nat) : cnN N s c (k + 1) = cnN N s c k + (if bt s k = 1 ∧ 0 < hN N k c then 1 else 0) := rfl
theorem cnN_le (N : Tn) (s c k : Nat) : cnN N s c k ≤ k * 1 := sumN_bound (fun i hi => by split <;> omega)
def frB (N : Tn) (s : Nat) : Bool := (List.range (N 1)).all (fun c => decide (cnN N s c (N 2) ≤ 1))
theorem frB_t {N : Tn} {s : Nat} : frB N s = true ↔ ∀ c, c < N 1 → cnN N s c (N 2) ≤ 1 := by
  unfold frB
  rw [List.all_eq_true]
  constructor
  · intro h c hc; exact of_decide_eq_true (h c (List.mem_range.mpr hc))
  · intro h c hc; exact decide_eq_true (h c (List.mem_range.mp hc))
theorem ctX8_shareNoPrime {d s t : Nat} {N : Tn} (hd : 3 ≤ d) (hW : WFN N) (hs : s < 2147483648) {σ : Sg} (hR : RowT σ t N) : Ct d MX8_shareNoPrime [rV 17 t, iV (s : Int)] σ (.inl [iV (b01 (frB N s))]) σ := by
  refine (eX8_shareNoPrime (d := 2) ?_).mono hd
  intro X Xr Xt hC hr
  refine bX8_shareNoPrime_0 hC ?_
  have h5 := hW.1.2.1
  have h8 := hW.1.1
  have p8 := pw8 h8
  have key : ∀ k, k ≤ N 2 → (∀ c, c < N 1 → cnN N s c k ≤ 1) → ∀ x : Nat, x = bitsN (fun c => decide (1 ≤ cnN N s c k)) (N 1) → X 4 [rV 17 t, iV (s : Int), iV (x : Int), iV (k : Int), uV] [] σ := by
    refine loop_up (P := fun k => (∀ c, c < N 1 → cnN N s c k ≤ 1) → ∀ x : Nat, x = bitsN (fun c => decide (1 ≤ cnN N s c k)) (N 1) → X 4 [rV 17 t, iV (s : Int), iV (x : Int), iV (k : Int), uV] [] σ) ?_ ?_
    · intro h1 x hx
      refine bX8_shareNoPrime_4 hC ?_
      rw [hR.1 2 (by omega), if_neg (by omega)]
      rw [frB_t.mpr h1] at hr
      exact hr
    · intro k hk ih h1 x hx
      refine bX8_shareNoPrime_4 hC ?_
      rw [hR.1 2 (by omega), if_pos (by omega)]
      refine ⟨_, ctX8_coinBits (by decide) hW (by omega) hR, ?_⟩
      have hcl := cbN_lt N k (N 1)
      have hxl : x < 2 ^ N 1 := by rw [hx]; exact bitsN_lt _ _
      have hx3 : x < 2147483648 := Nat.lt_of_lt_of_le hxl (Nat.le_trans p8 (by decide))
      have hc3 : cbN N k (N 1) < 2147483648 := Nat.lt_of_lt_of_le hcl (Nat.le_trans p8 (by decide))
      have hcb : cbN N k (N 1) = bitsN (fun c => decide (0 < hN N k c)) (N 1) := by
        have : ∀ j, cbN N k j = bitsN (fun c => decide (0 < hN N k c)) j := by
          intro j
          induction j with
          | zero => rfl
          | succ j ihj =>
            have e : cbN N k (j + 1) = cbN N k j + (if 0 < hN N k j then 2 ^ j else 0) := rfl
            rw [e, bitsN_s, ihj]
            by_cases z : 0 < hN N k j
            · rw [if_pos z, if_pos (decide_eq_true z)]
            · rw [if_neg z, if_neg (by rw [decide_eq_false z]; decide)]
        exact this _
      rw [bt_I hs (by omega), w32_s (by omega)]
      cases bt_01 s k with
      | inl b0 =>
        have e0 : w32 ((bt s k : Int) * (cbN N k (N 1) : Int)) = ((0 : Nat) : Int) := by rw [b0, ← Int.natCast_mul, Nat.zero_mul]; rfl
        have ec : ∀ c, cnN N s c (k + 1) = cnN N s c k := fun c => by rw [cnN_s, if_neg (by omega)]; rfl
        rw [e0, iand_nat hx3 (by decide), Nat.and_zero, if_pos (show ((0 : Nat) : Int) = 0 from rfl), ior_nat hx3 (by decide), Nat.or_zero]
        refine ih (fun c hc => by rw [ec]; exact h1 c hc) x ?_
        rw [hx]
        exact bitsN_congr (fun c _ => by rw [ec])
      | inr b1 =>
        have e0 : w32 ((bt s k : Int) * (cbN N k (N 1) : Int)) = (cbN N k (N 1) : Int) := by rw [b1, ← Int.natCast_mul, Nat.one_mul, w32_n hc3]
        have ec : ∀ c, cnN N s c (k + 1) = cnN N s c k + (if 0 < hN N k c then 1 else 0) := fun c => by
          rw [cnN_s]
          by_cases z : 0 < hN N k c
          · rw [if_pos ⟨b1, z⟩, if_pos z]
          · rw [if_neg (fun q => z q.2), if_neg z]
        rw [e0, iand_nat hx3 hc3, ior_nat hx3 hc3, hx, hcb, bitsN_and, bitsN_or]
        by_cases z : bitsN (fun i => decide (1 ≤ cnN N s i k) && decide (0 < hN N k i)) (N 1) = 0
        · rw [if_pos (by rw [z]; rfl)]
          have z2 := (bitsN_0 _ _).mp z
          have z3 : ∀ c, c < N 1 → ¬ (1 ≤ cnN N s c k ∧ 0 < hN N k c) := by
            intro c hc q
            have := z2 c hc
            rw [decide_eq_true q.1, decide_eq_true q.2] at this
            exact absurd this (by decide)
          refine ih ?_ _ ?_
          · intro c hc
            have := h1 c hc
            have := z3 c hc
            rw [ec]
            split <;> omega
          · refine bitsN_congr ?_
            intro c hc
            have := z3 c hc
            show (decide (1 ≤ cnN N s c k) || decide (0 < hN N k c)) = decide (1 ≤ cnN N s c (k + 1))
            rw [ec]
            by_cases q : 0 < hN N k c
            · rw [if_pos q, decide_eq_true q, Bool.or_true, decide_eq_true (by omega)]
            · rw [if_neg q, decide_eq_false q, Bool.or_false]; rfl
        · rw [if_neg (fun q => z (Int.ofNat_eq_zero.mp q))]
          have hf : frB N s = false := by
            cases hfr : frB N s with
            | false => rfl
            | true =>
              exfalso
              apply z
              rw [bitsN_0]
              intro c hc
              have q := frB_t.mp hfr c hc
              have q2 : cnN N s c (k + 1) ≤ cnN N s c (N 2) := sumN_mono (by omega)
              have q3 := ec c
              show (decide (1 ≤ cnN N s c k) && decide (0 < hN N k c)) = false
              by_cases q4 : 0 < hN N k c
              · rw [if_pos q4] at q3
                rw [decide_eq_false (show ¬ 1 ≤ cnN N s c k by omega)]; rfl
              · rw [decide_eq_false q4, Bool.and_false]
          rw [hf] at hr
          exact hr
  exact key 0 (Nat.zero_le _) (fun c _ => Nat.zero_le 1) 0 ((bitsN_0 _ _).mpr (fun c _ => decide_eq_false (show ¬ 1 ≤ 0 by decide))).symm
theorem ctX11_areFriends {d s : Nat} {N : Tn} (hd : 3 ≤ d) (hW : WFN N) (hs : s < 2147483648) {σ : Sg} (hM : RowM σ 67 0 N) : Ct d MX11_areFriends [rV 20 66, iV (s : Int)] σ (.inl [iV (b01 (frB N s))]) σ := by
  refine (eX11_areFriends (d := 2) ?_).mono hd
  intro X Xr Xt hC hr
  refine bX11_areFriends_0 hC ?_
  have h5 := hW.1.2.1
  have h8 := hW.1.1
  have key : ∀ k, k ≤ N 1 → (∀ c, c < k → cnN N s c (N 2) ≤ 1) → X 2 [rV 20 66, iV (s : Int), iV (k : Int), uV, uV] [] σ := by
    refine loop_up (P := fun k => (∀ c, c < k → cnN N s c (N 2) ≤ 1) → X 2 [rV 20 66, iV (s : Int), iV (k : Int), uV, uV] [] σ) ?_ ?_
    · intro h1
      refine bX11_areFriends_2 hC ?_
      refine ⟨_, ctX11_coins (by decide) hM, ?_⟩
      rw [if_neg (by omega)]
      rw [frB_t.mpr h1] at hr
      exact hr
    · intro c hc ih h1
      refine bX11_areFriends_2 hC ?_
      refine ⟨_, ctX11_coins (by decide) hM, ?_⟩
      rw [if_pos (by omega)]
      have key2 : ∀ k, k ≤ N 2 → ∀ x : Nat, x = cnN N s c k → X 15 [rV 20 66, iV (s : Int), iV (c : Int), iV (x : Int), iV (k : Int)] [] σ := by
        refine loop_up (P := fun k => ∀ x : Nat, x = cnN N s c k → X 15 [rV 20 66, iV (s : Int), iV (c : Int), iV (x : Int), iV (k : Int)] [] σ) ?_ ?_
        · intro x hx
          refine bX11_areFriends_15 hC ?_
          refine ⟨_, ctX11_people (by decide) hM, ?_⟩
          rw [if_neg (by omega)]
          by_cases z : 1 < x
          · rw [if_pos (by omega)]
            have hf : frB N s = false := by
              cases hfr : frB N s with
              | false => rfl
              | true => have := frB_t.mp hfr c hc; omega
            rw [hf] at hr
            exact hr
          · rw [if_neg (by omega), w32_s (by omega)]
            refine ih ?_
            intro e he
            by_cases q : e = c
            · rw [q]; omega
            · exact h1 e (by omega)
        · intro k hk ihk x hx
          refine bX11_areFriends_15 hC ?_
          refine ⟨_, ctX11_people (by decide) hM, ?_⟩
          rw [if_pos (by omega), bt_I hs (by omega)]
          have hb := cnN_le N s c k
          have e := cnN_s N s c k
          rw [w32_s (show k < 2147483647 by omega), w32_s (show x < 2147483647 by omega)]
          have e0 : w32 ((x : Int) + 0) = (x : Int) := by unfold w32; omega
          rw [e0]
          by_cases b1 : bt s k = 1
          · rw [if_pos (by omega)]
            refine ⟨_, ctX11_of (by decide) (by omega) (by omega) hM, ?_⟩
            by_cases z : 0 < hN N k c
            · rw [if_pos ⟨b1, z⟩] at e
              rw [if_pos (by omega)]
              exact ihk _ (by omega)
            · rw [if_neg (fun q => z q.2)] at e
              rw [if_neg (by omega)]
              exact ihk _ (by omega)
          · rw [if_neg (fun q => b1 q.1)] at e
            rw [if_neg (by omega)]
            exact ihk _ (by omega)
      exact key2 0 (Nat.zero_le _) 0 rfl
  exact key 0 (Nat.zero_le _) (fun c hc => absurd hc (Nat.not_lt_zero c))
def fdN (N : Tn) : Nat → Nat
  | 0 => 0
  | 1 => 0
  | k + 2 => if popc (fdN N (k + 1)) < popc (k + 1) then (if frB N (k + 1) = true then k + 1 else fdN N (k + 1)) else fdN N (k + 1)
theorem fdN_s (N : Tn) {k : Nat} (h : 1 ≤ k) : fdN N (k + 1) = if popc (fdN N k) < popc k then (if frB N k = true then k else fdN N k) else fdN N k := by
  match k, h with
  | k + 1, _ => rfl
theorem fdN_lt (N : Tn) : ∀ k, fdN N (k + 1) ≤ k := by
  intro k
  induction k with
  | zero => exact Nat.le_refl 0
  | succ k ih => rw [fdN_s N (by omega)]; split <;> (try split) <;> omega
theorem jn_friends {ω : Nat → Int} {σ : Sg} (hI : Inv ω σ) : Jn ω MX10_friends MX11_friends [] iV σ := by
  obtain ⟨N, hQ⟩ := hI.1
  have hW := hQ.2.2
  have h5 := hW.1.2.1
  have h8 := hW.1.1
  have hf : Fr σ (upS σ 66 5 0) := (Fr.refl σ).ups66 (by decide) (by decide) (by decide)
  have hM : RowM (upS σ 66 5 0) 67 0 N := RowM_ups hQ.2.1 (by decide)
  have hp : 2 ^ N 2 ≤ 2 ^ 5 := Nat.pow_le_pow_right (by decide) h5
  have hp0 : 0 < 2 ^ N 2 := Nat.pow_pos (by decide)
  refine ⟨(fdN N (2 ^ N 2) : Int), σ, ?_, upS σ 66 5 0, ?_, Inv_fr hI hf⟩
  · refine (eX10_friends (d := 4) ?_).mono (by decide)
    intro X Xr Xt hC hr
    refine bX10_friends_0 hC ?_
    have key : ∀ k, k ≤ 2 ^ N 2 → 1 ≤ k → ∀ x : Nat, x = fdN N k → X 4 [rV 19 0, iV (x : Int), iV (k : Int)] [] σ := by
      refine loop_up (P := fun k => 1 ≤ k → ∀ x : Nat, x = fdN N k → X 4 [rV 19 0, iV (x : Int), iV (k : Int)] [] σ) ?_ ?_
      · intro h1 x hx
        refine bX10_friends_4 hC ?_
        rw [hQ.1.1 2 (by omega), ishl_1 (by omega), if_neg (by omega), hx]
        exact hr
      · intro k hk ih h1 x hx
        have hl := fdN_lt N (k - 1)
        rw [show k - 1 + 1 = k by omega] at hl
        refine bX10_friends_4 hC ?_
        rw [hQ.1.1 2 (by omega), ishl_1 (by omega), if_pos (by omega)]
        refine ⟨_, ctJ6_bitCount (by decide) (by omega), _, ctJ6_bitCount (by decide) (by omega), ?_⟩
        have ih := ih (Nat.le_add_left 1 k)
        have ih := fun y hy => ih y (show y = _ by rw [fdN_s N h1]; exact hy)
        rw [← hx] at ih
        rw [w32_s (by omega)]
        by_cases a : popc x < popc k
        · rw [if_pos a] at ih
          rw [if_pos (by omega)]
          refine ⟨_, ctX8_shareNoPrime (by decide) hW (by omega) hQ.1, ?_⟩
          by_cases b : frB N k = true
          · rw [if_pos b] at ih
            rw [b, if_neg (by decide)]
            exact ih _ rfl
          · rw [if_neg b] at ih
            rw [Bool.eq_false_iff.mpr b, if_pos (by decide)]
            exact ih _ rfl
        · rw [if_neg a] at ih
          rw [if_neg (by omega)]
          exact ih _ rfl
    exact key 1 (by omega) (by omega) 0 rfl
  · refine (eX11_friends (d := 4) ?_).mono (by decide)
    intro X Xr Xt hC hr
    refine bX11_friends_0 hC ?_
    have key : ∀ k, k ≤ 2 ^ N 2 → 1 ≤ k → ∀ x : Nat, x = fdN N k → X 9 [rV 20 66, iV (x : Int), iV (k : Int)] [] (upS σ 66 5 0) := by
      refine loop_up (P := fun k => 1 ≤ k → ∀ x : Nat, x = fdN N k → X 9 [rV 20 66, iV (x : Int), iV (k : Int)] [] (upS σ 66 5 0)) ?_ ?_
      · intro h1 x hx
        refine bX11_friends_9 hC ?_
        refine ⟨_, ctX11_people (by decide) hM, ?_⟩
        rw [ishl_1 (by omega), if_neg (by omega), hx]
        exact hr
      · intro k hk ih h1 x hx
        have hl := fdN_lt N (k - 1)
        rw [show k - 1 + 1 = k by omega] at hl
        refine bX11_friends_9 hC ?_
        refine ⟨_, ctX11_people (by decide) hM, ?_⟩
        rw [ishl_1 (by omega), if_pos (by omega)]
        refine ⟨_, ctX11_bits (by decide) (by omega), _, ctX11_bits (by decide) (by omega), ?_⟩
        have ih := ih (Nat.le_add_left 1 k)
        have ih := fun y hy => ih y (show y = _ by rw [fdN_s N h1]; exact hy)
        rw [← hx] at ih
        rw [w32_s (by omega)]
        by_cases a : popc x < popc k
        · rw [if_pos a] at ih
          rw [if_pos (by omega)]
          refine ⟨_, ctX11_areFriends (by decide) hW (by omega) hM, ?_⟩
          by_cases b : frB N k = true
          · rw [if_pos b] at ih
            rw [b, if_neg (by decide)]
            exact ih _ rfl
          · rw [if_neg b] at ih
            rw [Bool.eq_false_iff.mpr b, if_pos (by decide)]
            exact ih _ rfl
        · rw [if_neg a] at ih
          rw [if_neg (by omega)]
          exact ih _ rfl
    exact key 1 (by omega) (by omega) 0 rfl
