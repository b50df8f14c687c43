/-! THE REFERENCE reads its row: cell 67 -/
theorem RowM_cell {σ τ : Sg} {a off : Nat} {N : Tn} (h : RowM σ a off N) (e : τ a = σ a) : RowM τ a off N := fun j hj => by rw [e]; exact h j hj
theorem RowM_ups {σ : Sg} {a off b k : Nat} {v : Int} {N : Tn} (h : RowM σ a off N) (e : a ≠ b) : RowM (upS σ b k v) a off N := RowM_cell h (ups_cell e)
theorem rwm0 {σ : Sg} {N : Tn} (h : RowM σ 67 0 N) {j : Nat} (hj : j < 181) : σ 67 j = (N j : Int) := by
  have := h j hj
  rw [Nat.zero_add] at this
  exact this
theorem ctX11_coins {d : Nat} (hd : 1 ≤ d) {N : Tn} {σ : Sg} (hM : RowM σ 67 0 N) : Ct d MX11_coins [rV 20 66] σ (.inl [iV (N 1 : Int)]) σ := by
  refine (eX11_coins (d := 0) ?_).mono hd
  intro X Xr Xt hC hr
  refine bX11_coins_0 hC ?_
  rw [rwm0 hM (by omega)]
  exact hr
theorem ctX11_people {d : Nat} (hd : 1 ≤ d) {N : Tn} {σ : Sg} (hM : RowM σ 67 0 N) : Ct d MX11_people [rV 20 66] σ (.inl [iV (N 2 : Int)]) σ := by
  refine (eX11_people (d := 0) ?_).mono hd
  intro X Xr Xt hC hr
  refine bX11_people_0 hC ?_
  rw [rwm0 hM (by omega)]
  exact hr
theorem ctX11_isPerson {d : Nat} {x : Int} (hd : 2 ≤ d) {N : Tn} (h2 : N 2 ≤ 5) {σ : Sg} (hM : RowM σ 67 0 N) : Ct d MX11_isPerson [rV 20 66, lV x] σ (.inl [iV (b01 (decide (0 ≤ x ∧ x < N 2)))]) σ := by
  refine (eX11_isPerson (d := 1) ?_).mono hd
  intro X Xr Xt hC hr
  refine bX11_isPerson_0 hC ?_
  refine ⟨_, ctX11_people (by decide) hM, _, ctX11_within (by decide), ?_⟩
  have e : w32 ((N 2 : Int) - 1) = (N 2 : Int) - 1 := by unfold w32; omega
  rw [e]
  by_cases h : 0 ≤ x ∧ x < N 2
  · rw [decide_eq_true h] at hr
    rw [decide_eq_true (show 0 ≤ x ∧ x ≤ (N 2 : Int) - 1 by omega)]
    exact ⟨Or.inr rfl, hr⟩
  · rw [decide_eq_false h] at hr
    rw [decide_eq_false (show ¬ (0 ≤ x ∧ x ≤ (N 2 : Int) - 1) by omega)]
    exact ⟨Or.inl rfl, hr⟩
theorem ctX11_prime {d c : Nat} (hd : 1 ≤ d) (hc : c < 8) {N : Tn} {σ : Sg} (hM : RowM σ 67 0 N) : Ct d MX11_prime [rV 20 66, iV (c : Int)] σ (.inl [iV (N (4 + c) : Int)]) σ := by
  refine (eX11_prime (d := 0) ?_).mono hd
  intro X Xr Xt hC hr
  refine bX11_prime_0 hC ?_
  rw [show w32 (4 + (c : Int)) = ((4 + c : Nat) : Int) by unfold w32; omega]
  refine ⟨by omega, ?_⟩
  rw [Int.toNat_natCast, rwm0 hM (by omega)]
  exact hr
theorem ctX11_prime_z {d : Nat} {x : Int} (hd : 1 ≤ d) (h0 : 0 ≤ x) (hc : x < 8) {N : Tn} {σ : Sg} (hM : RowM σ 67 0 N) : Ct d MX11_prime [rV 20 66, iV x] σ (.inl [iV (N (4 + x.toNat) : Int)]) σ := by
  have := ctX11_prime (c := x.toNat) hd (by omega) hM
  rw [show ((x.toNat : Nat) : Int) = x by omega] at this
  exact this
theorem ctX11_of {d p c : Nat} (hd : 1 ≤ d) (hp : p < 5) (hc : c < 8) {N : Tn} {σ : Sg} (hM : RowM σ 67 0 N) : Ct d MX11_of [rV 20 66, iV (p : Int), iV (c : Int)] σ (.inl [iV (hN N p c : Int)]) σ := by
  refine (eX11_of (d := 0) ?_).mono hd
  intro X Xr Xt hC hr
  refine bX11_of_0 hC ?_
  rw [show w32 (w32 (12 + w32 (8 * (p : Int))) + (c : Int)) = ((12 + 8 * p + c : Nat) : Int) by unfold w32; omega]
  refine ⟨by omega, ?_⟩
  rw [Int.toNat_natCast, rwm0 hM (by omega)]
  exact hr
theorem ctX11_side {d k s c : Nat} (hd : 1 ≤ d) (hk : k < 6) (hs : s < 2) (hc : c < 8) {N : Tn} {σ : Sg} (hM : RowM σ 67 0 N) : Ct d MX11_side [rV 20 66, iV (k : Int), iV (s : Int), iV (c : Int)] σ (.inl [iV (sN N k s c : Int)]) σ := by
  refine (eX11_side (d := 0) ?_).mono hd
  intro X Xr Xt hC hr
  refine bX11_side_0 hC ?_
  rw [show w32 (w32 (w32 (52 + w32 (16 * (k : Int))) + w32 (8 * (s : Int))) + (c : Int)) = ((52 + 16 * k + 8 * s + c : Nat) : Int) by unfold w32; omega]
  refine ⟨by omega, ?_⟩
  rw [Int.toNat_natCast, rwm0 hM (by omega)]
  exact hr
theorem ctX11_debt {d p q : Nat} (hd : 1 ≤ d) (hp : p < 5) (hq : q < 5) {N : Tn} {σ : Sg} (hM : RowM σ 67 0 N) : Ct d MX11_debt [rV 20 66, iV (p : Int), iV (q : Int)] σ (.inl [iV (oN N p q : Int)]) σ := by
  refine (eX11_debt (d := 0) ?_).mono hd
  intro X Xr Xt hC hr
  refine bX11_debt_0 hC ?_
  rw [show w32 (w32 (156 + w32 (5 * (p : Int))) + (q : Int)) = ((156 + 5 * p + q : Nat) : Int) by unfold w32; omega]
  refine ⟨by omega, ?_⟩
  rw [Int.toNat_natCast, rwm0 hM (by omega)]
  exact hr
theorem ctX11_fails {d : Nat} {x : Int} (hd : 1 ≤ d) {σ : Sg} : Ct d MX11_fails [rV 20 66, iV x] σ (.inl [iV 0]) (upS σ 66 5 x) := by
  refine (eX11_fails (d := 0) ?_).mono hd
  intro X Xr Xt hC hr
  exact bX11_fails_0 hC hr
theorem ctX11_size {d p : Nat} (hd : 2 ≤ d) (hp : p < 5) {N : Tn} (hW : WFN N) {σ : Sg} (hM : RowM σ 67 0 N) : Ct d MX11_size [rV 20 66, iV (p : Int)] σ (.inl [iV (mN N p : Int)]) σ := by
  refine (eX11_size (d := 1) ?_).mono hd
  intro X Xr Xt hC hr
  refine bX11_size_0 hC ?_
  have h8 := hW.1.1
  have key : ∀ k, k ≤ N 1 → X 4 [rV 20 66, iV (p : Int), iV (sumN (hN N p) k : Int), iV (k : Int)] [] σ := by
    refine loop_up (P := fun k => X 4 [rV 20 66, iV (p : Int), iV (sumN (hN N p) k : Int), iV (k : Int)] [] σ) ?_ ?_
    · refine bX11_size_4 hC ?_
      refine ⟨_, ctX11_coins (by decide) hM, ?_⟩
      rw [if_neg (by omega)]
      exact hr
    · intro k hk ih
      refine bX11_size_4 hC ?_
      refine ⟨_, ctX11_coins (by decide) hM, ?_⟩
      rw [if_pos (by omega)]
      refine ⟨_, ctX11_of (by decide) hp (by omega) hM, ?_⟩
      have := hN_le hW hp (show k < 8 by omega)
      have := mN_le hW hp
      have : sumN (hN N p) k ≤ mN N p := sumN_mono (by omega)
      rw [w32_s (by omega), ← Int.natCast_add, w32_n (by omega)]
      exact ih
  exact key 0 (Nat.zero_le _)
/-- multiplying up: k coins whole and i of the next -/
theorem ctX11_worthOf {d p : Nat} (hd : 2 ≤ d) (hp : p < 5) {N : Tn} (hW : WFN N) {σ : Sg} (hM : RowM σ 67 0 N) : Ct d MX11_worthOf [rV 20 66, iV (p : Int)] σ (.inl [lV (wN N p : Int)]) σ := by
  refine (eX11_worthOf (d := 1) ?_).mono hd
  intro X Xr Xt hC hr
  refine bX11_worthOf_0 hC ?_
  have h8 := hW.1.1
  have key : ∀ k, k ≤ N 1 → X 5 [rV 20 66, iV (p : Int), lV (prodN (fun c => N (4 + c) ^ hN N p c) k : Int), uV, iV (k : Int), uV] [] σ := by
    refine loop_up (P := fun k => X 5 [rV 20 66, iV (p : Int), lV (prodN (fun c => N (4 + c) ^ hN N p c) k : Int), uV, iV (k : Int), uV] [] σ) ?_ ?_
    · refine bX11_worthOf_5 hC ?_
      refine ⟨_, ctX11_coins (by decide) hM, ?_⟩
      rw [if_neg (by omega)]
      exact hr
    · intro k hk ih
      refine bX11_worthOf_5 hC ?_
      refine ⟨_, ctX11_coins (by decide) hM, ?_⟩
      rw [if_pos (by omega)]
      have hb := wN_part hW (f := hN N p) (k := k + 1) hk (mN_le hW hp)
      rw [prodN_s] at hb
      have hq := hW.2.1 k hk
      have hh := hN_le hW hp (show k < 8 by omega)
      have key2 : ∀ i, i ≤ hN N p k → ∀ x : Nat, x = prodN (fun c => N (4 + c) ^ hN N p c) k * N (4 + k) ^ i → X 17 [rV 20 66, iV (p : Int), lV (x : Int), uV, iV (k : Int), iV (i : Int)] [] σ := by
        refine loop_up (P := fun i => ∀ x : Nat, x = prodN (fun c => N (4 + c) ^ hN N p c) k * N (4 + k) ^ i → X 17 [rV 20 66, iV (p : Int), lV (x : Int), uV, iV (k : Int), iV (i : Int)] [] σ) ?_ ?_
        · intro x hx
          refine bX11_worthOf_17 hC ?_
          refine ⟨_, ctX11_of (by decide) hp (by omega) hM, ?_⟩
          rw [if_neg (by omega), w32_s (by omega), hx]
          exact ih
        · intro i hi ihi x hx
          refine bX11_worthOf_17 hC ?_
          refine ⟨_, ctX11_of (by decide) hp (by omega) hM, ?_⟩
          rw [if_pos (by omega)]
          refine ⟨_, ctX11_prime (by decide) (by omega) hM, ?_⟩
          have e : x * N (4 + k) = prodN (fun c => N (4 + c) ^ hN N p c) k * N (4 + k) ^ (i + 1) := by
            rw [hx, Nat.mul_assoc]
            rfl
          have hm : prodN (fun c => N (4 + c) ^ hN N p c) k * N (4 + k) ^ (i + 1) ≤ prodN (fun c => N (4 + c) ^ hN N p c) k * N (4 + k) ^ hN N p k := Nat.mul_le_mul_left _ (Nat.pow_le_pow_right (by omega) (by omega))
          rw [← Int.natCast_mul, w64_n (by omega), w32_s (by omega)]
          exact ihi _ e
      exact key2 0 (Nat.zero_le _) _ (by rw [Nat.pow_zero, Nat.mul_one])
  exact key 0 (Nat.zero_le _)
theorem ctX11_sideOf {d k s : Nat} (hd : 2 ≤ d) (hk6 : k < 6) (hs : s < 2) {N : Tn} (hW : WFN N) {σ : Sg} (hM : RowM σ 67 0 N) : Ct d MX11_sideOf [rV 20 66, iV (k : Int), iV (s : Int)] σ (.inl [lV (vN N k s : Int)]) σ := by
  refine (eX11_sideOf (d := 1) ?_).mono hd
  intro X Xr Xt hC hr
  refine bX11_sideOf_0 hC ?_
  have h8 := hW.1.1
  have key : ∀ j, j ≤ N 1 → X 5 [rV 20 66, iV (k : Int), iV (s : Int), lV (prodN (fun c => N (4 + c) ^ sN N k s c) j : Int), uV, iV (j : Int), uV] [] σ := by
    refine loop_up (P := fun j => X 5 [rV 20 66, iV (k : Int), iV (s : Int), lV (prodN (fun c => N (4 + c) ^ sN N k s c) j : Int), uV, iV (j : Int), uV] [] σ) ?_ ?_
    · refine bX11_sideOf_5 hC ?_
      refine ⟨_, ctX11_coins (by decide) hM, ?_⟩
      rw [if_neg (by omega)]
      exact hr
    · intro j hj ih
      refine bX11_sideOf_5 hC ?_
      refine ⟨_, ctX11_coins (by decide) hM, ?_⟩
      rw [if_pos (by omega)]
      have hb := vN_part hW hk6 hs (show j + 1 ≤ N 1 from hj)
      rw [prodN_s] at hb
      have hq := hW.2.1 j hj
      have hh := sN_le hW hk6 hs (show j < 8 by omega)
      have key2 : ∀ i, i ≤ sN N k s j → ∀ x : Nat, x = prodN (fun c => N (4 + c) ^ sN N k s c) j * N (4 + j) ^ i → X 17 [rV 20 66, iV (k : Int), iV (s : Int), lV (x : Int), uV, iV (j : Int), iV (i : Int)] [] σ := by
        refine loop_up (P := fun i => ∀ x : Nat, x = prodN (fun c => N (4 + c) ^ sN N k s c) j * N (4 + j) ^ i → X 17 [rV 20 66, iV (k : Int), iV (s : Int), lV (x : Int), uV, iV (j : Int), iV (i : Int)] [] σ) ?_ ?_
        · intro x hx
          refine bX11_sideOf_17 hC ?_
          refine ⟨_, ctX11_side (by decide) hk6 hs (by omega) hM, ?_⟩
          rw [if_neg (by omega), w32_s (by omega), hx]
          exact ih
        · intro i hi ihi x hx
          refine bX11_sideOf_17 hC ?_
          refine ⟨_, ctX11_side (by decide) hk6 hs (by omega) hM, ?_⟩
          rw [if_pos (by omega)]
          refine ⟨_, ctX11_prime (by decide) (by omega) hM, ?_⟩
          have e : x * N (4 + j) = prodN (fun c => N (4 + c) ^ sN N k s c) j * N (4 + j) ^ (i + 1) := by
            rw [hx, Nat.mul_assoc]
            rfl
          have hm : prodN (fun c => N (4 + c) ^ sN N k s c) j * N (4 + j) ^ (i + 1) ≤ prodN (fun c => N (4 + c) ^ sN N k s c) j * N (4 + j) ^ sN N k s j := Nat.mul_le_mul_left _ (Nat.pow_le_pow_right (by omega) (by omega))
          rw [← Int.natCast_mul, w64_n (by omega), w32_s (by omega)]
          exact ihi _ e
      exact key2 0 (Nat.zero_le _) _ (by rw [Nat.pow_zero, Nat.mul_one])
  exact key 0 (Nat.zero_le _)
