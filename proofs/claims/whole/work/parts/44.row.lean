/-! A TOWN'S ROW: 0 lines, 1 coins, 2 people, 3 changes, 4.. primes, 12.. purses, 52.. sides, 148.. treasury, 156.. debts -/
abbrev Tn : Type := Nat → Nat
def RowT (σ : Sg) (t : Nat) (N : Tn) : Prop := (∀ i, i < 4 → σ t i = (N i : Int)) ∧ (∀ i, i < 25 → σ (t + 2) i = (N (156 + i) : Int)) ∧ (∀ i, i < 8 → σ (t + 3) i = (N (4 + i) : Int)) ∧ (∀ i, i < 40 → σ (t + 4) i = (N (12 + i) : Int)) ∧ (∀ i, i < 96 → σ (t + 5) i = (N (52 + i) : Int)) ∧ (∀ i, i < 8 → σ (t + 6) i = (N (148 + i) : Int))
def RowM (σ : Sg) (a off : Nat) (N : Tn) : Prop := ∀ j, j < 181 → σ a (off + j) = (N j : Int)
def hN (N : Tn) (p c : Nat) : Nat := N (12 + 8 * p + c)
def sN (N : Tn) (k s c : Nat) : Nat := N (52 + 16 * k + 8 * s + c)
def oN (N : Tn) (p q : Nat) : Nat := N (156 + 5 * p + q)
/-- a town as both sides keep it -/
def WFN (N : Tn) : Prop :=
  (N 1 ≤ 8 ∧ N 2 ≤ 5 ∧ N 3 ≤ 6 ∧ N 0 ≤ 1000) ∧
  (∀ c, c < N 1 → isPr (N (4 + c)) = true ∧ 2 ≤ N (4 + c) ∧ N (4 + c) ≤ 97) ∧
  (∀ c e, c < N 1 → e < N 1 → N (4 + c) = N (4 + e) → c = e) ∧
  (∀ p, p < 5 → sumN (hN N p) 8 ≤ 9) ∧
  (∀ p c, p < 5 → c < 8 → N 2 ≤ p ∨ N 1 ≤ c → hN N p c = 0) ∧
  (∀ k s, k < 6 → s < 2 → sumN (sN N k s) 8 ≤ 3) ∧
  (∀ k s c, k < 6 → s < 2 → c < 8 → N 3 ≤ k ∨ N 1 ≤ c → sN N k s c = 0) ∧
  (∀ c, c < 8 → N (148 + c) ≤ 999 ∧ (N 1 ≤ c → N (148 + c) = 0)) ∧
  (∀ p q, p < 5 → q < 5 → 1 ≤ oN N p q ∧ oN N p q ≤ 1000000000 ∧ (p = q ∨ N 2 ≤ p ∨ N 2 ≤ q → oN N p q = 1)) ∧
  (∀ c, c < 8 → N 1 ≤ c → N (4 + c) = 0)
theorem hN_le {N : Tn} (h : WFN N) {p c : Nat} (hp : p < 5) (hc : c < 8) : hN N p c ≤ 9 := Nat.le_trans (sumN_le_one (f := hN N p) hc) (h.2.2.2.1 p hp)
theorem sN_le {N : Tn} (h : WFN N) {k s c : Nat} (hk : k < 6) (hs : s < 2) (hc : c < 8) : sN N k s c ≤ 3 := Nat.le_trans (sumN_le_one (f := sN N k s) hc) (h.2.2.2.2.2.1 k s hk hs)
/-- the class reads the row -/
theorem w_held {p c : Nat} (hp : p < 100) (hc : c < 100) : w32 (w32 ((p : Int) * 8) + (c : Int)) = ((8 * p + c : Nat) : Int) := by unfold w32; omega
theorem ctX8_held {d p c t : Nat} {N : Tn} (hd : 1 ≤ d) (hp : p < 5) (hc : c < 8) {σ : Sg} (hR : RowT σ t N) : Ct d MX8_held [rV 17 t, iV (p : Int), iV (c : Int)] σ (.inl [iV (hN N p c : Int)]) σ := by
  refine (eX8_held (d := 0) ?_).mono hd
  intro X Xr Xt hC hr
  refine bX8_held_0 hC ?_
  rw [if_neg (by omega), if_pos (by omega), if_neg (by omega), if_pos (by omega), w_held (by omega) (by omega)]
  refine ⟨by omega, ?_⟩
  rw [Int.toNat_natCast, hR.2.2.2.1 _ (by omega), ← Nat.add_assoc]
  exact hr
theorem ctX8_held_no {d p t : Nat} (hd : 1 ≤ d) {σ : Sg} : Ct d MX8_held [rV 17 t, iV (p : Int), iV (-1)] σ (.inl [iV 0]) σ := by
  refine (eX8_held (d := 0) ?_).mono hd
  intro X Xr Xt hC hr
  refine bX8_held_0 hC ?_
  rw [if_neg (by omega)]
  by_cases h : (p : Int) < 5
  · rw [if_pos h, if_pos (by decide)]
    exact hr
  · rw [if_neg h]
    exact hr
theorem ctX8_primeOf {d c t : Nat} {N : Tn} (hd : 1 ≤ d) (hW : WFN N) (hc : c < N 1) {σ : Sg} (hR : RowT σ t N) : Ct d MX8_primeOf [rV 17 t, iV (c : Int)] σ (.inl [iV (N (4 + c) : Int)]) σ := by
  refine (eX8_primeOf (d := 0) ?_).mono hd
  intro X Xr Xt hC hr
  refine bX8_primeOf_0 hC ?_
  have := hW.1.1
  have h1 := hR.1 1 (by omega)
  rw [if_neg (by omega), h1, if_pos (by omega)]
  refine ⟨by omega, ?_⟩
  rw [Int.toNat_natCast, hR.2.2.1 _ (by omega)]
  exact hr
theorem ctX8_primeOf_no {d t : Nat} (hd : 1 ≤ d) {σ : Sg} : Ct d MX8_primeOf [rV 17 t, iV (-1)] σ (.inl [iV 1]) σ := by
  refine (eX8_primeOf (d := 0) ?_).mono hd
  intro X Xr Xt hC hr
  refine bX8_primeOf_0 hC ?_
  rw [if_pos (by decide)]
  exact hr
def mN (N : Tn) (p : Nat) : Nat := sumN (hN N p) (N 1)
theorem mN_8 {N : Tn} (hW : WFN N) {p : Nat} (hp : p < 5) : mN N p = sumN (hN N p) 8 := (sumN_zero hW.1.1 (fun i h1 h2 => hW.2.2.2.2.1 p i hp h2 (Or.inr h1))).symm
theorem mN_le {N : Tn} (hW : WFN N) {p : Nat} (hp : p < 5) : mN N p ≤ 9 := by
  rw [mN_8 hW hp]
  exact hW.2.2.2.1 p hp
theorem ctX8_many {d p t : Nat} {N : Tn} (hd : 2 ≤ d) (hW : WFN N) (hp : p < 5) {σ : Sg} (hR : RowT σ t N) : Ct d MX8_many [rV 17 t, iV (p : Int)] σ (.inl [iV (mN N p : Int)]) σ := by
  refine (eX8_many (d := 1) ?_).mono hd
  intro X Xr Xt hC hr
  refine bX8_many_0 hC ?_
  have h8 := hW.1.1
  have h1 := hR.1 1 (by omega)
  have key : ∀ k, k ≤ N 1 → X 4 [rV 17 t, iV (p : Int), iV (sumN (hN N p) k : Int), iV (k : Int)] [] σ := by
    refine loop_up (P := fun k => X 4 [rV 17 t, iV (p : Int), iV (sumN (hN N p) k : Int), iV (k : Int)] [] σ) ?_ ?_
    · refine bX8_many_4 hC ?_
      rw [h1, if_neg (by omega)]
      exact hr
    · intro k hk ih
      refine bX8_many_4 hC ?_
      rw [h1, if_pos (by omega)]
      refine ⟨_, ctX8_held (by decide) hp (by omega) hR, ?_⟩
      have := hN_le hW hp (show k < 8 by omega)
      have := mN_le hW hp
      have : sumN (hN N p) k ≤ mN N p := sumN_mono (by omega)
      rw [w32_s (by omega), ← Int.natCast_add, w32_n (by omega)]
      exact ih
  exact key 0 (Nat.zero_le _)
