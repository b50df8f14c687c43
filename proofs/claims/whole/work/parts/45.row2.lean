/-- the number of a coin by its prime, or -1 -/
def nrGo (N : Tn) (x : Int) : Nat → Nat → Int
  | 0, _ => -1
  | f + 1, k => if (N (4 + k) : Int) = x then (k : Int) else nrGo N x f (k + 1)
def nrN (N : Tn) (x : Int) : Int := nrGo N x (N 1) 0
theorem nrGo_rng (N : Tn) (x : Int) : ∀ f k, nrGo N x f k = -1 ∨ (k ≤ nrGo N x f k ∧ nrGo N x f k < k + f ∧ (N (4 + (nrGo N x f k).toNat) : Int) = x) := by
  intro f
  induction f with
  | zero => intro k; exact Or.inl rfl
  | succ f ih =>
    intro k
    unfold nrGo
    split
    · rename_i h
      exact Or.inr ⟨by omega, by omega, by rw [Int.toNat_natCast]; exact h⟩
    · cases ih (k + 1) with
      | inl h => exact Or.inl h
      | inr h => exact Or.inr ⟨by omega, by omega, h.2.2⟩
theorem nrN_rng (N : Tn) (x : Int) : nrN N x = -1 ∨ (0 ≤ nrN N x ∧ nrN N x < N 1 ∧ (N (4 + (nrN N x).toNat) : Int) = x) := by
  have := nrGo_rng N x (N 1) 0
  unfold nrN
  omega
theorem ctX8_numberOf {d t : Nat} {x : Int} {N : Tn} (hd : 1 ≤ d) (h8 : N 1 ≤ 8) {σ : Sg} (hc : σ t 1 = (N 1 : Int)) (hp : ∀ i, i < 8 → σ (t + 3) i = (N (4 + i) : Int)) : Ct d MX8_numberOf [rV 17 t, iV x] σ (.inl [iV (nrN N x)]) σ := by
  refine (eX8_numberOf (d := 0) ?_).mono hd
  intro X Xr Xt hC hr
  refine bX8_numberOf_0 hC ?_
  have key : ∀ f k : Nat, k + f = N 1 → nrGo N x f k = nrN N x → X 2 [rV 17 t, iV x, iV (k : Int)] [] σ := by
    intro f
    induction f with
    | zero =>
      intro k hk he
      refine bX8_numberOf_2 hC ?_
      have hk : k = N 1 := hk
      rw [hc, if_neg (by omega)]
      have e2 := hr
      rw [← he] at e2
      exact e2
    | succ f ih =>
      intro k hk he
      refine bX8_numberOf_2 hC ?_
      rw [hc, if_pos (by omega)]
      refine ⟨by omega, ?_⟩
      rw [Int.toNat_natCast, hp k (by omega)]
      unfold nrGo at he
      by_cases h : (N (4 + k) : Int) = x
      · rw [if_pos h]
        rw [if_pos h] at he
        have e2 := hr
        rw [← he] at e2
        exact e2
      · rw [if_neg h, w32_s (by omega)]
        rw [if_neg h] at he
        exact ih (k + 1) (by omega) he
  exact key (N 1) 0 (by omega) rfl
/-- the reference's row in any of its cells of 181 -/
theorem ctX11_coinOf {d a : Nat} {x : Int} {N : Tn} (hd : 1 ≤ d) (h8 : N 1 ≤ 8) {σ : Sg} (hR : RowM σ a 0 N) : Ct d MX11_coinOf [rV 1000181 a, lV x] σ (.inl [iV (nrN N x)]) σ := by
  refine (eX11_coinOf (d := 0) ?_).mono hd
  intro X Xr Xt hC hr
  refine bX11_coinOf_0 hC ?_
  have hc := hR 1 (by omega)
  have key : ∀ f k : Nat, k + f = N 1 → nrGo N x f k = nrN N x → X 2 [rV 1000181 a, lV x, uV, iV (k : Int)] [] σ := by
    intro f
    induction f with
    | zero =>
      intro k hk he
      refine bX11_coinOf_2 hC ?_
      have hk : k = N 1 := hk
      rw [show σ a 1 = (N 1 : Int) from hc, if_neg (by omega)]
      have e2 := hr
      rw [← he] at e2
      exact e2
    | succ f ih =>
      intro k hk he
      refine bX11_coinOf_2 hC ?_
      rw [show σ a 1 = (N 1 : Int) from hc, if_pos (by omega)]
      have hw : w32 (4 + (k : Int)) = ((4 + k : Nat) : Int) := by unfold w32; omega
      rw [hw]
      refine ⟨by omega, ?_⟩
      have hp := hR (4 + k) (by omega)
      rw [Nat.zero_add] at hp
      rw [Int.toNat_natCast, hp]
      unfold nrGo at he
      by_cases h : (N (4 + k) : Int) = x
      · rw [if_pos h]
        rw [if_pos h] at he
        have e2 := hr
        rw [← he] at e2
        exact e2
      · rw [if_neg h, w32_s (by omega)]
        rw [if_neg h] at he
        exact ih (k + 1) (by omega) he
  exact key (N 1) 0 (by omega) rfl
theorem ctX8_inTreasury {d t : Nat} {c : Nat} {N : Tn} (hd : 1 ≤ d) (hW : WFN N) (hc : c < N 1) {σ : Sg} (hR : RowT σ t N) : Ct d MX8_inTreasury [rV 17 t, iV (c : Int)] σ (.inl [iV (N (148 + c) : Int)]) σ := by
  refine (eX8_inTreasury (d := 0) ?_).mono hd
  intro X Xr Xt hC hr
  refine bX8_inTreasury_0 hC ?_
  have h8 := hW.1.1
  have h1 := hR.1 1 (by omega)
  rw [if_neg (by omega), h1, if_pos (by omega)]
  refine ⟨by omega, ?_⟩
  rw [Int.toNat_natCast, hR.2.2.2.2.2 c (by omega)]
  exact hr
theorem ctX8_inTreasury_no {d t : Nat} (hd : 1 ≤ d) {σ : Sg} : Ct d MX8_inTreasury [rV 17 t, iV (-1)] σ (.inl [iV 0]) σ := by
  refine (eX8_inTreasury (d := 0) ?_).mono hd
  intro X Xr Xt hC hr
  refine bX8_inTreasury_0 hC ?_
  rw [if_pos (by decide)]
  exact hr
def tN (N : Tn) : Nat := sumN (fun c => N (148 + c)) (N 1)
theorem ctX8_manyInTreasury {d t : Nat} {N : Tn} (hd : 1 ≤ d) (hW : WFN N) {σ : Sg} (hR : RowT σ t N) : Ct d MX8_manyInTreasury [rV 17 t] σ (.inl [iV (tN N : Int)]) σ := by
  refine (eX8_manyInTreasury (d := 0) ?_).mono hd
  intro X Xr Xt hC hr
  refine bX8_manyInTreasury_0 hC ?_
  have h8 := hW.1.1
  have h1 := hR.1 1 (by omega)
  have hb : ∀ k, k ≤ 8 → sumN (fun c => N (148 + c)) k ≤ 7992 := by
    intro k hk
    have : sumN (fun c => N (148 + c)) k ≤ k * 999 := sumN_bound (fun i hi => (hW.2.2.2.2.2.2.2.1 i (by omega)).1)
    omega
  have key : ∀ k, k ≤ N 1 → X 4 [rV 17 t, iV (sumN (fun c => N (148 + c)) k : Int), iV (k : Int)] [] σ := by
    refine loop_up (P := fun k => X 4 [rV 17 t, iV (sumN (fun c => N (148 + c)) k : Int), iV (k : Int)] [] σ) ?_ ?_
    · refine bX8_manyInTreasury_4 hC ?_
      rw [h1, if_neg (by omega)]
      exact hr
    · intro k hk ih
      refine bX8_manyInTreasury_4 hC ?_
      rw [h1, if_pos (by omega)]
      refine ⟨by omega, ?_⟩
      have hb1 : sumN (fun c => N (148 + c)) k + N (148 + k) ≤ 7992 := hb (k + 1) (by omega)
      rw [Int.toNat_natCast, hR.2.2.2.2.2 k (by omega), w32_s (by omega), ← Int.natCast_add, w32_n (by omega)]
      exact ih
  exact key 0 (Nat.zero_le _)
theorem ctX8_isSidePlace {d k s c : Nat} (hd : 1 ≤ d) (hk : k < 6) (hs : s < 2) (hc : c < 8) {σ : Sg} : Ct d MX8_isSidePlace [iV (k : Int), iV (s : Int), iV (c : Int)] σ (.inl [iV 1]) σ := by
  refine (eX8_isSidePlace (d := 0) ?_).mono hd
  intro X Xr Xt hC hr
  refine bX8_isSidePlace_0 hC ?_
  rw [if_neg (by omega), if_pos (by omega)]
  by_cases h : s = 0
  · rw [if_pos (by omega), if_neg (by omega), if_pos (by omega)]
    exact hr
  · rw [if_neg (by omega), if_pos (by omega), if_neg (by omega), if_pos (by omega)]
    exact hr
theorem w_side {k s c : Nat} (hk : k < 6) (hs : s < 2) (hc : c < 8) : w32 (w32 (w32 (w32 ((k : Int) * 2) + (s : Int)) * 8) + (c : Int)) = ((16 * k + 8 * s + c : Nat) : Int) := by unfold w32; omega
theorem ctX8_onSide {d k s c t : Nat} {N : Tn} (hd : 2 ≤ d) (hk : k < 6) (hs : s < 2) (hc : c < 8) {σ : Sg} (hR : RowT σ t N) : Ct d MX8_onSide [rV 17 t, iV (k : Int), iV (s : Int), iV (c : Int)] σ (.inl [iV (sN N k s c : Int)]) σ := by
  refine (eX8_onSide (d := 1) ?_).mono hd
  intro X Xr Xt hC hr
  refine bX8_onSide_0 hC ?_
  refine ⟨_, ctX8_isSidePlace (by decide) hk hs hc, ?_⟩
  rw [if_neg (by decide), w_side hk hs hc]
  refine ⟨by omega, ?_⟩
  rw [Int.toNat_natCast, hR.2.2.2.2.1 _ (by omega), ← Nat.add_assoc, ← Nat.add_assoc]
  exact hr
/-- the worth of a side -/
def vN (N : Tn) (k s : Nat) : Nat := prodN (fun c => N (4 + c) ^ sN N k s c) (N 1)
theorem vN_part {N : Tn} (hW : WFN N) {k s : Nat} (hk : k < 6) (hs : s < 2) {j : Nat} (hj : j ≤ N 1) : prodN (fun c => N (4 + c) ^ sN N k s c) j ≤ 912673 := by
  have h1 := prodN_pow_le (b := fun c => N (4 + c)) (e := sN N k s) (n := j) (fun i hi => (hW.2.1 i (by omega)).2.2)
  have h2 : sumN (sN N k s) j ≤ sumN (sN N k s) 8 := sumN_mono (by have := hW.1.1; omega)
  have h3 := hW.2.2.2.2.2.1 k s hk hs
  have h4 : 97 ^ sumN (sN N k s) j ≤ 97 ^ 3 := Nat.pow_le_pow_right (by decide) (by omega)
  exact Nat.le_trans h1 (Nat.le_trans h4 (by decide))
theorem ctX8_sideWorth {d k s t : Nat} {N : Tn} (hd : 3 ≤ d) (hW : WFN N) (hk : k < 6) (hs : s < 2) {σ : Sg} (hR : RowT σ t N) : Ct d MX8_sideWorth [rV 17 t, iV (k : Int), iV (s : Int)] σ (.inl [iV (vN N k s : Int)]) σ := by
  refine (eX8_sideWorth (d := 2) ?_).mono hd
  intro X Xr Xt hC hr
  refine bX8_sideWorth_0 hC ?_
  have h8 := hW.1.1
  have h1 := hR.1 1 (by omega)
  have key : ∀ j, j ≤ N 1 → X 5 [rV 17 t, iV (k : Int), iV (s : Int), lV (prodN (fun c => N (4 + c) ^ sN N k s c) j : Int), uV, iV (j : Int)] [] σ := by
    refine loop_up (P := fun j => X 5 [rV 17 t, iV (k : Int), iV (s : Int), lV (prodN (fun c => N (4 + c) ^ sN N k s c) j : Int), uV, iV (j : Int)] [] σ) ?_ ?_
    · refine bX8_sideWorth_5 hC ?_
      have hb := vN_part hW hk hs (Nat.le_refl (N 1))
      rw [h1, if_neg (by omega), w32_n (Nat.lt_of_le_of_lt hb (by decide))]
      exact hr
    · intro j hj ih
      refine bX8_sideWorth_5 hC ?_
      rw [h1, if_pos (by omega)]
      have hq := hW.2.1 j hj
      have hh := sN_le hW hk hs (show j < 8 by omega)
      have hpw := pow_le9 hq.2.2 (show sN N k s j ≤ 9 by omega)
      refine ⟨_, ctX8_primeOf (by decide) hW hj hR, _, ctX8_onSide (by decide) hk hs (by omega) hR, _, ctX3_whole (by decide) (by omega) (by omega) (by omega), ?_⟩
      have hb := vN_part hW hk hs (show j + 1 ≤ N 1 from hj)
      rw [w32_s (by omega), ← Int.natCast_mul, w64_n (show prodN (fun c => N (4 + c) ^ sN N k s c) j * N (4 + j) ^ sN N k s j < 9223372036854775808 from Nat.lt_of_le_of_lt hb (by decide))]
      exact ih
  exact key 0 (Nat.zero_le _)
theorem ctX1_isPair {d p q : Nat} (hd : 1 ≤ d) (hp : p < 5) (hq : q < 5) {σ : Sg} : Ct d MX1_isPair [iV (p : Int), iV (q : Int)] σ (.inl [iV 1]) σ := by
  refine (eX1_isPair (d := 0) ?_).mono hd
  intro X Xr Xt hC hr
  refine bX1_isPair_0 hC ?_
  rw [if_neg (by omega), if_pos (by omega), if_neg (by omega), if_pos (by omega)]
  exact hr
theorem w_pair {p q : Nat} (hp : p < 5) (hq : q < 5) : w32 (w32 ((p : Int) * 5) + (q : Int)) = ((5 * p + q : Nat) : Int) := by unfold w32; omega
theorem ctX1_of {d p q t : Nat} (hd : 2 ≤ d) (hp : p < 5) (hq : q < 5) {σ : Sg} : Ct d MX1_of [rV 11 t, iV (p : Int), iV (q : Int)] σ (.inl [lV (σ (t + 1) (5 * p + q))]) σ := by
  refine (eX1_of (d := 1) ?_).mono hd
  intro X Xr Xt hC hr
  refine bX1_of_0 hC ?_
  refine ⟨_, ctX1_isPair (by decide) hp hq, ?_⟩
  rw [if_neg (by decide), w_pair hp hq]
  refine ⟨by omega, ?_⟩
  rw [Int.toNat_natCast]
  exact hr
theorem ctX1_set {d p q t : Nat} {v : Int} (hd : 2 ≤ d) (hp : p < 5) (hq : q < 5) {σ : Sg} : Ct d MX1_set [rV 11 t, iV (p : Int), iV (q : Int), lV v] σ (.inl []) (upS σ (t + 1) (5 * p + q) v) := by
  refine (eX1_set (d := 1) ?_).mono hd
  intro X Xr Xt hC hr
  refine bX1_set_0 hC ?_
  refine ⟨_, ctX1_isPair (by decide) hp hq, ?_⟩
  rw [if_neg (by decide), w_pair hp hq]
  refine ⟨by omega, ?_⟩
  rw [Int.toNat_natCast]
  exact hr
