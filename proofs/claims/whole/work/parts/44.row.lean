/-! A TOWN'S ROW: 0 lines, 1 coins, 2 people, 3 changes, 4.. primes, 12.. purses, 52.. sides, 148.. treasury, 156.. debts -/
abbrev Tn : Type := Nat → Nat
def RowT (σ : Sg) (t : Nat) (N : Tn) : Prop := (∀ i, i < 4 → σ t i = (N i : Int)) ∧ (∀ i, i < 25 → σ (t + 2) i = (N (156 + i) : Int)) ∧ (∀ i, i < 8 → σ (t + 3) i = (N (4 + i) : Int)) ∧ (∀ i, i < 40 → σ (t + 4) i = (N (12 + i) : Int)) ∧ (∀ i, i < 96 → σ (t + 5) i = (N (52 + i) : Int)) ∧ (∀ i, i < 8 → σ (t + 6) i = (N (148 + i) : Int))
def RowM (σ : Sg) (a off : Nat) (N : Tn) : Prop := ∀ j, j < 181 → σ a (off + j) = (N j : Int)
def hN (N : Tn) (p c : Nat) : Nat := N (12 + 8 * p + c)
def sN (N : Tn) (k s c : Nat) : Nat := N (52 + 16 * k + 8 * s + c)
def oN (N : Tn) (p q : Nat) : Nat := N (156 + 5 * p + q)
/-- a town as both sides keep it -/
def WFN (N : Tn) : Prop :=
  (N 1 ≤ 8 ∧ N 2 ≤ 5 ∧ N 3 ≤ 6 ∧ N 0 ≤ 1000 ∧ (0 < N 2 → 0 < N 1)) ∧
  (∀ c, c < N 1 → isPr (N (4 + c)) = true ∧ 2 ≤ N (4 + c) ∧ N (4 + c) ≤ 97) ∧
  (∀ c e, c < N 1 → e < N 1 → N (4 + c) = N (4 + e) → c = e) ∧
  (∀ p, p < 5 → sumN (hN N p) 8 ≤ 9) ∧
  (∀ p c, p < 5 → c < 8 → N 2 ≤ p ∨ N 1 ≤ c → hN N p c = 0) ∧
  (∀ k s, k < 6 → s < 2 → sumN (sN N k s) 8 ≤ 3) ∧
  (∀ k s c, k < 6 → s < 2 → c < 8 → N 3 ≤ k ∨ N 1 ≤ c → sN N k s c = 0) ∧
  (∀ c, c < 8 → N (148 + c) ≤ 999 ∧ (N 1 ≤ c → N (148 + c) = 0)) ∧
  (∀ p q, p < 5 → q < 5 → 1 ≤ oN N p q ∧ oN N p q ≤ 1000000000 ∧ (p = q ∨ N 2 ≤ p ∨ N 2 ≤ q → oN N p q = 1)) ∧
  (∀ c, c < 8 → N 1 ≤ c → N (4 + c) = 0)
theorem hN_le {N : Tn} (h : WFN N) {p c : Nat} (hp : p < 5) (hc : c < 8) : hN N p c ≤ 9 := Nat.le_trans (sumN_le_one (f := hN N p) hc) (h.2.2.2.1 p hp)
theorem sN_le {N : Tn} (h : WFN N) {k s c : Nat} (hk : k < 6) (hs : s < 2) (hc : c < 8) : sN N k s c ≤ 3 := Nat.le_trans (sumN_le_one (f := sN N k s) hc) (h.2.2.2.2.2.1 k s hk hs)
/-- the class reads the row -/
theorem w_held {p c : Nat} (hp : p < 100) (hc : c < 100) : w32 (w32 ((p : Int) * 8) + (c : Int)) = ((8 * p + c : Nat) : Int) := by unfold w32; omega
theorem ctX8_held {d p c t : Nat} {N : Tn} (hd : 1 ≤ d) (hp : p < 5) (hc : c < 8) {σ : Sg} (hR : RowT σ t N) : Ct d MX8_held [rV 17 t, iV (p : Int), iV (c : Int)] σ (.inl [iV (hN N p c : Int)]) σ := by
  refine (eX8_held (d := 0) ?_).mono hd
  intro X Xr Xt hC hr
  refine bX8_held_0 hC ?_
  rw [if_neg (by omega), if_pos (by omega), if_neg (by omega), if_pos (by omega), w_held (by omega) (by omega)]
  refine ⟨by omega, ?_⟩
  rw [Int.toNat_natCast, hR.2.2.2.1 _ (by omega), ← Nat.add_assoc]
  exact hr
theorem ctX8_held_no {d p t : Nat} (hd : 1 ≤ d) {σ : Sg} : Ct d MX8_held [rV 17 t, iV (p : Int), iV (-1)] σ (.inl [iV 0]) σ := by
  refine (eX8_held (d := 0) ?_).mono hd
  intro X Xr Xt hC hr
  refine bX8_held_0 hC ?_
  rw [if_neg (by omega)]
  by_cases h : (p : Int) < 5
  · rw [if_pos h, if_pos (by decide)]
    exact hr
  · rw [if_neg h]
    exact hr
theorem ctX8_primeOf {d c t : Nat} {N : Tn} (hd : 1 ≤ d) (hW : WFN N) (hc : c < N 1) {σ : Sg} (hR : RowT σ t N) : Ct d MX8_primeOf [rV 17 t, iV (c : Int)] σ (.inl [iV (N (4 + c) : Int)]) σ := by
  refine (eX8_primeOf (d := 0) ?_).mono hd
  intro X Xr Xt hC hr
  refine bX8_primeOf_0 hC ?_
  have := hW.1.1
  have h1 := hR.1 1 (by omega)
  rw [if_neg (by omega), h1, if_pos (by omega)]
  refine ⟨by omega, ?_⟩
  rw [Int.toNat_natCast, hR.2.2.1 _ (by omega)]
  exact hr
theorem ctX8_primeOf_no {d t : Nat} (hd : 1 ≤ d) {σ : Sg} : Ct d MX8_primeOf [rV 17 t, iV (-1)] σ (.inl [iV 1]) σ := by
  refine (eX8_primeOf (d := 0) ?_).mono hd
  intro X Xr Xt hC hr
  refine bX8_primeOf_0 hC ?_
  rw [if_pos (by decide)]
  exact hr
def mN (N : Tn) (p : Nat) : Nat := sumN (hN N p) (N 1)
theorem mN_8 {N : Tn} (hW : WFN N) {p : Nat} (hp : p < 5) : mN N p = sumN (hN N p) 8 := (sumN_zero hW.1.1 (fun i h1 h2 => hW.2.2.2.2.1 p i hp h2 (Or.inr h1))).symm
theorem mN_le {N : Tn} (hW : WFN N) {p : Nat} (hp : p < 5) : mN N p ≤ 9 := by
  rw [mN_8 hW hp]
  exact hW.2.2.2.1 p hp
theorem ctX8_many {d p t : Nat} {N : Tn} (hd : 2 ≤ d) (hW : WFN N) (hp : p < 5) {σ : Sg} (hR : RowT σ t N) : Ct d MX8_many [rV 17 t, iV (p : Int)] σ (.inl [iV (mN N p : Int)]) σ := by
  refine (eX8_many (d := 1) ?_).mono hd
  intro X Xr Xt hC hr
  refine bX8_many_0 hC ?_
  have h8 := hW.1.1
  have h1 := hR.1 1 (by omega)
  have key : ∀ k, k ≤ N 1 → X 4 [rV 17 t, iV (p : Int), iV (sumN (hN N p) k : Int), iV (k : Int)] [] σ := by
    refine loop_up (P := fun k => X 4 [rV 17 t, iV (p : Int), iV (sumN (hN N p) k : Int), iV (k : Int)] [] σ) ?_ ?_
    · refine bX8_many_4 hC ?_
      rw [h1, if_neg (by omega)]
      exact hr
    · intro k hk ih
      refine bX8_many_4 hC ?_
      rw [h1, if_pos (by omega)]
      refine ⟨_, ctX8_held (by decide) hp (by omega) hR, ?_⟩
      have := hN_le hW hp (show k < 8 by omega)
      have := mN_le hW hp
      have : sumN (hN N p) k ≤ mN N p := sumN_mono (by omega)
      rw [w32_s (by omega), ← Int.natCast_add, w32_n (by omega)]
      exact ih
  exact key 0 (Nat.zero_le _)
def pN (N : Tn) : Nat := sumN (mN N) (N 2)
theorem pN_le {N : Tn} (hW : WFN N) : pN N ≤ 45 := by
  have h5 := hW.1.2.1
  have : pN N ≤ N 2 * 9 := sumN_bound (fun i hi => mN_le hW (by omega))
  omega
theorem ctX8_manyInPurses {d t : Nat} {N : Tn} (hd : 3 ≤ d) (hW : WFN N) {σ : Sg} (hR : RowT σ t N) : Ct d MX8_manyInPurses [rV 17 t] σ (.inl [iV (pN N : Int)]) σ := by
  refine (eX8_manyInPurses (d := 2) ?_).mono hd
  intro X Xr Xt hC hr
  refine bX8_manyInPurses_0 hC ?_
  have h5 := hW.1.2.1
  have h1 := hR.1 2 (by omega)
  have key : ∀ k, k ≤ N 2 → X 4 [rV 17 t, iV (sumN (mN N) k : Int), iV (k : Int)] [] σ := by
    refine loop_up (P := fun k => X 4 [rV 17 t, iV (sumN (mN N) k : Int), iV (k : Int)] [] σ) ?_ ?_
    · refine bX8_manyInPurses_4 hC ?_
      rw [h1, if_neg (by omega)]
      exact hr
    · intro k hk ih
      refine bX8_manyInPurses_4 hC ?_
      rw [h1, if_pos (by omega)]
      refine ⟨_, ctX8_many (by decide) hW (by omega) hR, ?_⟩
      have := mN_le hW (show k < 5 by omega)
      have := pN_le hW
      have : sumN (mN N) k ≤ pN N := sumN_mono (by omega)
      rw [w32_s (by omega), ← Int.natCast_add, w32_n (by omega)]
      exact ih
  exact key 0 (Nat.zero_le _)
/-- the worth of a purse -/
def wN (N : Tn) (p : Nat) : Nat := prodN (fun c => N (4 + c) ^ hN N p c) (N 1)
theorem prodN_mono {f : Nat → Nat} {n m : Nat} (h : n ≤ m) (hf : ∀ i, n ≤ i → i < m → 0 < f i) : prodN f n ≤ prodN f m := by
  induction m with
  | zero => rw [show n = 0 from Nat.le_zero.mp h]; exact Nat.le_refl _
  | succ m ih =>
    by_cases e : n = m + 1
    · rw [e]; exact Nat.le_refl _
    · rw [prodN_s]
      exact Nat.le_trans (ih (by omega) (fun i a b => hf i a (by omega))) (Nat.le_mul_of_pos_right _ (hf m (by omega) (by omega)))
theorem wN_part {N : Tn} (hW : WFN N) {f : Nat → Nat} {k : Nat} (hk : k ≤ N 1) (hf : sumN f (N 1) ≤ 9) : prodN (fun c => N (4 + c) ^ f c) k ≤ 760231058654565217 := by
  have h1 := prodN_pow_le (b := fun c => N (4 + c)) (e := f) (n := k) (fun i hi => (hW.2.1 i (by omega)).2.2)
  have h2 : sumN f k ≤ sumN f (N 1) := sumN_mono hk
  exact Nat.le_trans h1 (p97_9 (by omega))
theorem wN_le {N : Tn} (hW : WFN N) {p : Nat} (hp : p < 5) : wN N p ≤ 760231058654565217 := wN_part hW (Nat.le_refl _) (mN_le hW hp)
theorem wN_pos {N : Tn} (hW : WFN N) {p : Nat} : 0 < wN N p := prodN_pos (fun i hi => Nat.pow_pos (by have := hW.2.1 i hi; omega))
theorem pow_le9 {b e : Nat} (hb : b ≤ 97) (he : e ≤ 9) : b ^ e ≤ 760231058654565217 := Nat.le_trans (Nat.pow_le_pow_left hb e) (p97_9 he)
theorem ctX8_worthOf {d p t : Nat} {N : Tn} (hd : 2 ≤ d) (hW : WFN N) (hp : p < 5) {σ : Sg} (hR : RowT σ t N) : Ct d MX8_worthOf [rV 17 t, iV (p : Int)] σ (.inl [lV (wN N p : Int)]) σ := by
  refine (eX8_worthOf (d := 1) ?_).mono hd
  intro X Xr Xt hC hr
  refine bX8_worthOf_0 hC ?_
  have h8 := hW.1.1
  have h1 := hR.1 1 (by omega)
  have key : ∀ k, k ≤ N 1 → X 5 [rV 17 t, iV (p : Int), lV (prodN (fun c => N (4 + c) ^ hN N p c) k : Int), uV, iV (k : Int)] [] σ := by
    refine loop_up (P := fun k => X 5 [rV 17 t, iV (p : Int), lV (prodN (fun c => N (4 + c) ^ hN N p c) k : Int), uV, iV (k : Int)] [] σ) ?_ ?_
    · refine bX8_worthOf_5 hC ?_
      rw [h1, if_neg (by omega)]
      exact hr
    · intro k hk ih
      refine bX8_worthOf_5 hC ?_
      rw [h1, if_pos (by omega)]
      have hq := hW.2.1 k hk
      have hh := hN_le hW hp (show k < 8 by omega)
      have hpw := pow_le9 hq.2.2 hh
      refine ⟨_, ctX8_primeOf (by decide) hW hk hR, _, ctX8_held (by decide) hp (by omega) hR, _, ctX3_whole (by decide) (by omega) (by omega) (by omega), ?_⟩
      have hb := wN_part hW (f := hN N p) (k := k + 1) hk (mN_le hW hp)
      rw [w32_s (by omega), ← Int.natCast_mul, w64_n (show prodN (fun c => N (4 + c) ^ hN N p c) k * N (4 + k) ^ hN N p k < 9223372036854775808 from Nat.lt_of_le_of_lt hb (by decide))]
      exact ih
  exact key 0 (Nat.zero_le _)
/-- which coins lie in a purse -/
def cbN (N : Tn) (p : Nat) (k : Nat) : Nat := sumN (fun c => if 0 < hN N p c then 2 ^ c else 0) k
theorem cbN_lt (N : Tn) (p k : Nat) : cbN N p k < 2 ^ k := by
  induction k with
  | zero => exact Nat.one_pos
  | succ k ih =>
    have : cbN N p (k + 1) = cbN N p k + (if 0 < hN N p k then 2 ^ k else 0) := rfl
    rw [this, Nat.pow_succ]
    by_cases h : 0 < hN N p k
    · rw [if_pos h]; omega
    · rw [if_neg h]; omega
theorem or_two_pow {a k : Nat} (h : a < 2 ^ k) : a ||| 2 ^ k = a + 2 ^ k := by
  have := Nat.two_pow_add_eq_or_of_lt h 1
  rw [Nat.mul_one] at this
  rw [Nat.or_comm, ← this, Nat.add_comm]
theorem pw8 {k : Nat} (h : k ≤ 8) : 2 ^ k ≤ 256 := Nat.pow_le_pow_right (by decide) h
theorem ctX8_coinBits {d p t : Nat} {N : Tn} (hd : 2 ≤ d) (hW : WFN N) (hp : p < 5) {σ : Sg} (hR : RowT σ t N) : Ct d MX8_coinBits [rV 17 t, iV (p : Int)] σ (.inl [iV (cbN N p (N 1) : Int)]) σ := by
  refine (eX8_coinBits (d := 1) ?_).mono hd
  intro X Xr Xt hC hr
  refine bX8_coinBits_0 hC ?_
  have h8 := hW.1.1
  have h1 := hR.1 1 (by omega)
  have key : ∀ k, k ≤ N 1 → ∀ x : Nat, x = cbN N p k → X 4 [rV 17 t, iV (p : Int), iV (x : Int), iV (k : Int)] [] σ := by
    refine loop_up (P := fun k => ∀ x : Nat, x = cbN N p k → X 4 [rV 17 t, iV (p : Int), iV (x : Int), iV (k : Int)] [] σ) ?_ ?_
    · intro x hx
      refine bX8_coinBits_4 hC ?_
      rw [h1, if_neg (by omega), hx]
      exact hr
    · intro k hk ih x hx
      refine bX8_coinBits_4 hC ?_
      rw [h1, if_pos (by omega)]
      refine ⟨_, ctX8_held (by decide) hp (by omega) hR, ?_⟩
      have hl := cbN_lt N p k
      have hp8 := pw8 (show k ≤ 8 by omega)
      have hp7 := pw8 (show k + 1 ≤ 8 by omega)
      rw [w32_s (by omega)]
      have e : cbN N p (k + 1) = cbN N p k + (if 0 < hN N p k then 2 ^ k else 0) := rfl
      by_cases h : 0 < hN N p k
      · rw [if_pos (by omega)]
        rw [if_pos h] at e
        have q : ishlI 1 (k : Int) = ((2 ^ k : Nat) : Int) := by
          have q := ishl_nat (a := 1) (k := k) (by omega) (by omega)
          rw [Nat.one_mul] at q
          exact q
        rw [q, ior_nat (by omega) (by omega)]
        exact ih _ (by rw [hx, or_two_pow hl, e])
      · rw [if_neg (by omega)]
        rw [if_neg h] at e
        exact ih _ (by rw [hx, e]; rfl)
  exact key 0 (Nat.zero_le _) 0 rfl
def unN (N : Tn) (p k : Nat) : Nat := sumN (fun c => if 0 < hN N p c then 1 else 0) k
theorem popc_add : ∀ k : Fin 8, ∀ a : Fin 128, a.val < 2 ^ k.val → popc (a.val + 2 ^ k.val) = popc a.val + 1 := by decide +kernel
theorem popc_0 : popc 0 = 0 := rfl
theorem unN_cb (N : Tn) (p : Nat) : ∀ k, k ≤ 8 → popc (cbN N p k) = unN N p k := by
  intro k
  induction k with
  | zero => intro _; exact popc_0
  | succ k ih =>
    intro hk
    have e : cbN N p (k + 1) = cbN N p k + (if 0 < hN N p k then 2 ^ k else 0) := rfl
    have e2 : unN N p (k + 1) = unN N p k + (if 0 < hN N p k then 1 else 0) := rfl
    rw [e, e2, ← ih (by omega)]
    have hl := cbN_lt N p k
    by_cases h : 0 < hN N p k
    · rw [if_pos h, if_pos h]
      have h7 : 2 ^ k ≤ 2 ^ 7 := Nat.pow_le_pow_right (by decide) (by omega)
      exact popc_add ⟨k, by omega⟩ ⟨cbN N p k, by omega⟩ hl
    · rw [if_neg h, if_neg h]
      rfl
theorem ctX8_unlike {d p t : Nat} {N : Tn} (hd : 3 ≤ d) (hW : WFN N) (hp : p < 5) {σ : Sg} (hR : RowT σ t N) : Ct d MX8_unlike [rV 17 t, iV (p : Int)] σ (.inl [iV (unN N p (N 1) : Int)]) σ := by
  refine (eX8_unlike (d := 2) ?_).mono hd
  intro X Xr Xt hC hr
  refine bX8_unlike_0 hC ?_
  have h8 := hW.1.1
  have hl := cbN_lt N p (N 1)
  have hp8 := pw8 h8
  refine ⟨_, ctX8_coinBits (by decide) hW hp hR, _, ctJ6_bitCount (by decide) (by omega), ?_⟩
  rw [unN_cb N p _ h8]
  exact hr
/-- the place of the greatest coin, or -1 -/
def grN (N : Tn) (p : Nat) : Nat → Int
  | 0 => -1
  | k + 1 => if 0 < hN N p k then (if grN N p k = -1 then (k : Int) else if N (4 + (grN N p k).toNat) < N (4 + k) then (k : Int) else grN N p k) else grN N p k
theorem grN_s (N : Tn) (p k : Nat) : grN N p (k + 1) = if 0 < hN N p k then (if grN N p k = -1 then (k : Int) else if N (4 + (grN N p k).toNat) < N (4 + k) then (k : Int) else grN N p k) else grN N p k := rfl
def leN (N : Tn) (p : Nat) : Nat → Int
  | 0 => -1
  | k + 1 => if 0 < hN N p k then (if leN N p k = -1 then (k : Int) else if N (4 + k) < N (4 + (leN N p k).toNat) then (k : Int) else leN N p k) else leN N p k
theorem leN_s (N : Tn) (p k : Nat) : leN N p (k + 1) = if 0 < hN N p k then (if leN N p k = -1 then (k : Int) else if N (4 + k) < N (4 + (leN N p k).toNat) then (k : Int) else leN N p k) else leN N p k := rfl
theorem grN_rng (N : Tn) (p : Nat) : ∀ k, grN N p k = -1 ∨ (0 ≤ grN N p k ∧ grN N p k < k) := by
  intro k
  induction k with
  | zero => exact Or.inl rfl
  | succ k ih =>
    rw [grN_s]
    split
    · split
      · exact Or.inr ⟨by omega, by omega⟩
      · split
        · exact Or.inr ⟨by omega, by omega⟩
        · cases ih with
          | inl h => exact Or.inl h
          | inr h => exact Or.inr ⟨h.1, by omega⟩
    · cases ih with
      | inl h => exact Or.inl h
      | inr h => exact Or.inr ⟨h.1, by omega⟩
theorem leN_rng (N : Tn) (p : Nat) : ∀ k, leN N p k = -1 ∨ (0 ≤ leN N p k ∧ leN N p k < k) := by
  intro k
  induction k with
  | zero => exact Or.inl rfl
  | succ k ih =>
    rw [leN_s]
    split
    · split
      · exact Or.inr ⟨by omega, by omega⟩
      · split
        · exact Or.inr ⟨by omega, by omega⟩
        · cases ih with
          | inl h => exact Or.inl h
          | inr h => exact Or.inr ⟨h.1, by omega⟩
    · cases ih with
      | inl h => exact Or.inl h
      | inr h => exact Or.inr ⟨h.1, by omega⟩
theorem ctX8_primeOf_z {d t : Nat} {x : Int} {N : Tn} (hd : 1 ≤ d) (hW : WFN N) (h0 : 0 ≤ x) (hc : x < N 1) {σ : Sg} (hR : RowT σ t N) : Ct d MX8_primeOf [rV 17 t, iV x] σ (.inl [iV (N (4 + x.toNat) : Int)]) σ := by
  have := ctX8_primeOf (c := x.toNat) hd hW (by omega) hR
  rw [show ((x.toNat : Nat) : Int) = x by omega] at this
  exact this
theorem ctX8_greatestCoin {d p t : Nat} {N : Tn} (hd : 2 ≤ d) (hW : WFN N) (hp : p < 5) {σ : Sg} (hR : RowT σ t N) : Ct d MX8_greatestCoin [rV 17 t, iV (p : Int)] σ (.inl [iV (grN N p (N 1))]) σ := by
  refine (eX8_greatestCoin (d := 1) ?_).mono hd
  intro X Xr Xt hC hr
  refine bX8_greatestCoin_0 hC ?_
  have h8 := hW.1.1
  have h1 := hR.1 1 (by omega)
  have key : ∀ k, k ≤ N 1 → ∀ x, x = grN N p k → X 4 [rV 17 t, iV (p : Int), iV x, iV (k : Int)] [] σ := by
    refine loop_up (P := fun k => ∀ x, x = grN N p k → X 4 [rV 17 t, iV (p : Int), iV x, iV (k : Int)] [] σ) ?_ ?_
    · intro x hx
      refine bX8_greatestCoin_4 hC ?_
      rw [h1, if_neg (by omega), hx]
      exact hr
    · intro k hk ih x hx
      have hrg := grN_rng N p k
      rw [← hx] at hrg
      have ih := fun y hy => ih y (show y = _ by rw [grN_s]; exact hy)
      rw [← hx] at ih
      refine bX8_greatestCoin_4 hC ?_
      rw [h1, if_pos (by omega)]
      refine ⟨_, ctX8_held (by decide) hp (by omega) hR, ?_⟩
      rw [w32_s (by omega)]
      by_cases a1 : 0 < hN N p k
      · rw [if_pos (by omega)]
        rw [if_pos a1] at ih
        by_cases a2 : x = -1
        · rw [if_pos a2]
          rw [if_pos a2] at ih
          exact ih _ rfl
        · rw [if_neg a2]
          rw [if_neg a2] at ih
          refine ⟨_, ctX8_primeOf (by decide) hW hk hR, _, ctX8_primeOf_z (by decide) hW (by omega) (by omega) hR, ?_⟩
          by_cases a3 : N (4 + x.toNat) < N (4 + k)
          · rw [if_pos (by omega)]
            rw [if_pos a3] at ih
            exact ih _ rfl
          · rw [if_neg (by omega)]
            rw [if_neg a3] at ih
            exact ih _ rfl
      · rw [if_neg (by omega)]
        rw [if_neg a1] at ih
        exact ih _ rfl
  exact key 0 (Nat.zero_le _) (-1) rfl
theorem ctX8_leastCoin {d p t : Nat} {N : Tn} (hd : 2 ≤ d) (hW : WFN N) (hp : p < 5) {σ : Sg} (hR : RowT σ t N) : Ct d MX8_leastCoin [rV 17 t, iV (p : Int)] σ (.inl [iV (leN N p (N 1))]) σ := by
  refine (eX8_leastCoin (d := 1) ?_).mono hd
  intro X Xr Xt hC hr
  refine bX8_leastCoin_0 hC ?_
  have h8 := hW.1.1
  have h1 := hR.1 1 (by omega)
  have key : ∀ k, k ≤ N 1 → ∀ x, x = leN N p k → X 4 [rV 17 t, iV (p : Int), iV x, iV (k : Int)] [] σ := by
    refine loop_up (P := fun k => ∀ x, x = leN N p k → X 4 [rV 17 t, iV (p : Int), iV x, iV (k : Int)] [] σ) ?_ ?_
    · intro x hx
      refine bX8_leastCoin_4 hC ?_
      rw [h1, if_neg (by omega), hx]
      exact hr
    · intro k hk ih x hx
      have hrg := leN_rng N p k
      rw [← hx] at hrg
      have ih := fun y hy => ih y (show y = _ by rw [leN_s]; exact hy)
      rw [← hx] at ih
      refine bX8_leastCoin_4 hC ?_
      rw [h1, if_pos (by omega)]
      refine ⟨_, ctX8_held (by decide) hp (by omega) hR, ?_⟩
      rw [w32_s (by omega)]
      by_cases a1 : 0 < hN N p k
      · rw [if_pos (by omega)]
        rw [if_pos a1] at ih
        by_cases a2 : x = -1
        · rw [if_pos a2]
          rw [if_pos a2] at ih
          exact ih _ rfl
        · rw [if_neg a2]
          rw [if_neg a2] at ih
          refine ⟨_, ctX8_primeOf (by decide) hW hk hR, _, ctX8_primeOf_z (by decide) hW (by omega) (by omega) hR, ?_⟩
          by_cases a3 : N (4 + k) < N (4 + x.toNat)
          · rw [if_pos (by omega)]
            rw [if_pos a3] at ih
            exact ih _ rfl
          · rw [if_neg (by omega)]
            rw [if_neg a3] at ih
            exact ih _ rfl
      · rw [if_neg (by omega)]
        rw [if_neg a1] at ih
        exact ih _ rfl
  exact key 0 (Nat.zero_le _) (-1) rfl
