/-! NUMBERS of the class and of the reference -/
def lfGo (n : Nat) : Nat → Nat → Nat
  | 0, _ => n
  | f + 1, k => if n < k * k then n else if n % k = 0 then k else lfGo n f (k + 1)
/-- the least factor from 2 on, or the number itself -/
def lf (n : Nat) : Nat := lfGo n 31621 2
theorem sq_le {k : Nat} (h : k ≤ 31623) : k * k ≤ 1000014129 := Nat.le_trans (Nat.mul_le_mul h h) (by decide)
theorem w32_sq {k : Nat} (h : k ≤ 31623) : w32 ((k : Int) * (k : Int)) = ((k * k : Nat) : Int) := by
  have := sq_le h
  rw [Int.natCast_mul k k |>.symm]
  exact w32_id (by omega) (by omega)
theorem w32_s {k : Nat} (h : k < 2147483647) : w32 ((k : Int) + 1) = ((k + 1 : Nat) : Int) := by unfold w32; omega
theorem w32_n {q : Nat} (h : q < 2147483648) : w32 (q : Int) = (q : Int) := by unfold w32; omega
theorem w64_n {q : Nat} (h : q < 9223372036854775808) : w64 (q : Int) = (q : Int) := by unfold w64; omega
theorem ctX3_leastFactor {d n : Nat} (hd : 1 ≤ d) (hn : n ≤ 1000000000) {σ : Sg} : Ct d MX3_leastFactor [iV (n : Int)] σ (.inl [iV (lf n : Int)]) σ := by
  refine (eX3_leastFactor (d := 0) ?_).mono hd
  intro X Xr Xt hC hr
  refine bX3_leastFactor_0 hC ?_
  have key : ∀ f k : Nat, k + f = 31623 → 2 ≤ k → lfGo n f k = lf n → X 2 [iV (n : Int), iV (k : Int)] [] σ := by
    intro f
    induction f with
    | zero =>
      intro k hk h2 he
      refine bX3_leastFactor_2 hC ?_
      rw [if_pos (by omega)]
      have e2 := hr
      rw [← (show n = lf n from he)] at e2
      exact e2
    | succ f ih =>
      intro k hk h2 he
      refine bX3_leastFactor_2 hC ?_
      have hs := w32_sq (k := k) (by omega)
      rw [if_neg (by omega), hs]
      unfold lfGo at he
      by_cases h1 : n < k * k
      · rw [if_pos h1] at he
        rw [if_pos (by omega)]
        have e2 := hr
        rw [← he] at e2
        exact e2
      rw [if_neg h1] at he
      rw [if_neg (by omega)]
      refine ⟨by omega, ?_⟩
      rw [tmod_nat]
      by_cases h3 : n % k = 0
      · rw [if_pos h3] at he
        rw [if_pos (by omega)]
        have e2 := hr
        rw [← he] at e2
        exact e2
      rw [if_neg h3] at he
      rw [if_neg (by omega), w32_s (by omega)]
      exact ih (k + 1) (by omega) (by omega) he
  exact key 31621 2 rfl (by omega) rfl
theorem ctX11_leastFactor {d n : Nat} (hd : 1 ≤ d) (hn : n ≤ 1000000000) {σ : Sg} : Ct d MX11_leastFactor [iV (n : Int)] σ (.inl [iV (lf n : Int)]) σ := by
  refine (eX11_leastFactor (d := 0) ?_).mono hd
  intro X Xr Xt hC hr
  refine bX11_leastFactor_0 hC ?_
  have key : ∀ f k : Nat, k + f = 31623 → 2 ≤ k → lfGo n f k = lf n → X 2 [iV (n : Int), iV (k : Int)] [] σ := by
    intro f
    induction f with
    | zero =>
      intro k hk h2 he
      refine bX11_leastFactor_2 hC ?_
      have e2 := hr
      rw [← (show n = lf n from he)] at e2
      refine ⟨by omega, ?_⟩
      have hlt : n / k < k := by
        rw [Nat.div_lt_iff_lt_mul (by omega), show k = 31623 by omega]
        omega
      rw [tdiv_nat, w32_n (by omega), if_pos (Int.ofNat_lt.mpr hlt)]
      exact e2
    | succ f ih =>
      intro k hk h2 he
      refine bX11_leastFactor_2 hC ?_
      refine ⟨by omega, ?_⟩
      have hle : n / k ≤ n := Nat.div_le_self n k
      rw [tdiv_nat, w32_n (by omega)]
      unfold lfGo at he
      by_cases h1 : n < k * k
      · rw [if_pos h1] at he
        have hlt : n / k < k := (Nat.div_lt_iff_lt_mul (by omega)).mpr h1
        rw [if_pos (Int.ofNat_lt.mpr hlt)]
        have e2 := hr
        rw [← he] at e2
        exact e2
      rw [if_neg h1] at he
      have hge : ¬ n / k < k := fun q => h1 ((Nat.div_lt_iff_lt_mul (by omega)).mp q)
      rw [if_neg (fun q => hge (Int.ofNat_lt.mp q))]
      refine ⟨by omega, ?_⟩
      rw [tmod_nat]
      by_cases h3 : n % k = 0
      · rw [if_pos h3] at he
        rw [if_pos (by omega)]
        have e2 := hr
        rw [← he] at e2
        exact e2
      rw [if_neg h3] at he
      rw [if_neg (by omega), w32_s (by omega)]
      exact ih (k + 1) (by omega) (by omega) he
  exact key 31621 2 rfl (by omega) rfl
def isPr (n : Nat) : Bool := decide (1 < n) && decide (lf n = n)
def b01 (b : Bool) : Int := if b then 1 else 0
theorem b01_t : b01 true = 1 := rfl
theorem b01_f : b01 false = 0 := rfl
theorem ctX11_isPrime {d n : Nat} (hd : 1 ≤ d) (hn : n ≤ 1000000000) {σ : Sg} : Ct d MX11_isPrime [iV (n : Int)] σ (.inl [iV (b01 (isPr n))]) σ := by
  refine (eX11_isPrime (d := 0) ?_).mono hd
  intro X Xr Xt hC hr
  refine bX11_isPrime_0 hC ?_
  have hend : lf n = n → (if (1 : Int) < (n : Int) then Xr [iV 1] σ else Xr [iV 0] σ) := by
    intro e
    by_cases h : 1 < n
    · rw [if_pos (by omega)]
      rw [show isPr n = true by unfold isPr; rw [decide_eq_true h, decide_eq_true e]; rfl] at hr
      exact hr
    · rw [if_neg (by omega)]
      rw [show isPr n = false by unfold isPr; rw [decide_eq_false h]; rfl] at hr
      exact hr
  have key : ∀ f k : Nat, k + f = 31623 → 2 ≤ k → lfGo n f k = lf n → X 2 [iV (n : Int), iV (k : Int)] [] σ := by
    intro f
    induction f with
    | zero =>
      intro k hk h2 he
      refine bX11_isPrime_2 hC ?_
      rw [w32_sq (by omega), show k = 31623 by omega, if_pos (by omega)]
      exact hend (show n = lf n from he).symm
    | succ f ih =>
      intro k hk h2 he
      refine bX11_isPrime_2 hC ?_
      rw [w32_sq (by omega)]
      unfold lfGo at he
      by_cases h1 : n < k * k
      · rw [if_pos h1] at he
        rw [if_pos (by omega)]
        exact hend he.symm
      rw [if_neg h1] at he
      rw [if_neg (by omega)]
      refine ⟨by omega, ?_⟩
      rw [tmod_nat]
      by_cases h3 : n % k = 0
      · rw [if_pos h3] at he
        rw [if_pos (by omega)]
        have h5 : k * 2 ≤ k * k := Nat.mul_le_mul_left k h2
        rw [show isPr n = false by unfold isPr; rw [decide_eq_false (show ¬ lf n = n by omega), Bool.and_false]] at hr
        exact hr
      rw [if_neg h3] at he
      rw [if_neg (by omega), w32_s (by omega)]
      exact ih (k + 1) (by omega) (by omega) he
  exact key 31621 2 rfl (by omega) rfl
theorem ctX11_within {d : Nat} (hd : 1 ≤ d) {x a b : Int} {σ : Sg} : Ct d MX11_within [lV x, lV a, lV b] σ (.inl [iV (b01 (decide (a ≤ x ∧ x ≤ b)))]) σ := by
  refine (eX11_within (d := 0) ?_).mono hd
  intro X Xr Xt hC hr
  refine bX11_within_0 hC ?_
  by_cases h1 : x < a
  · rw [if_pos h1]
    rw [decide_eq_false (by omega)] at hr
    exact hr
  rw [if_neg h1]
  by_cases h2 : b < x
  · rw [if_pos h2]
    rw [decide_eq_false (by omega)] at hr
    exact hr
  rw [if_neg h2]
  rw [decide_eq_true (by omega)] at hr
  exact hr
/-- the class's row of primes -/
def smallP (x : Int) : Bool := (List.range 25).any (fun j => decide (prm j = x))
theorem smallP_nat : ∀ n : Fin 98, smallP ((n.val : Nat) : Int) = isPr n.val := by decide +kernel
theorem smallP_big {x : Int} (h : ¬ (2 ≤ x ∧ x ≤ 97)) : smallP x = false := by
  unfold smallP
  rw [List.any_eq_false]
  intro j hj
  rw [List.mem_range] at hj
  have : ∀ q : Fin 25, 2 ≤ prm q.val ∧ prm q.val ≤ 97 := by decide
  have := this ⟨j, hj⟩
  simp only [decide_eq_true_eq]
  intro e
  exact h (by rw [← e]; exact this)
theorem ctX3_isSmallPrime {d : Nat} (hd : 1 ≤ d) {x : Int} {σ : Sg} : Ct d MX3_isSmallPrime [iV x] σ (.inl [iV (b01 (smallP x))]) σ := by
  refine (eX3_isSmallPrime (d := 0) ?_).mono hd
  intro X Xr Xt hC hr
  refine bX3_isSmallPrime_0 hC ?_
  have key : ∀ k : Nat, k ≤ 25 → (∀ j, j < k → prm j ≠ x) → X 2 [iV x, iV (k : Int)] [] σ := by
    refine loop_up (P := fun k => (∀ j, j < k → prm j ≠ x) → X 2 [iV x, iV (k : Int)] [] σ) ?_ ?_
    · intro hn
      refine bX3_isSmallPrime_2 hC ?_
      rw [if_neg (by decide)]
      rw [show smallP x = false by
        unfold smallP
        rw [List.any_eq_false]
        intro j hj
        rw [List.mem_range] at hj
        simp only [decide_eq_true_eq]
        exact hn j hj] at hr
      exact hr
    · intro k hk ih hn
      refine bX3_isSmallPrime_2 hC ?_
      rw [if_pos (by omega)]
      refine ⟨by omega, ?_⟩
      rw [Int.toNat_natCast]
      by_cases e : prm k = x
      · rw [if_pos e]
        rw [show smallP x = true by
          unfold smallP
          rw [List.any_eq_true]
          exact ⟨k, List.mem_range.mpr hk, by rw [e]; exact decide_eq_true rfl⟩] at hr
        exact hr
      rw [if_neg e, w32_s (by omega)]
      refine ih ?_
      intro j hj
      by_cases e2 : j = k
      · rw [e2]; exact e
      · exact hn j (by omega)
  exact key 0 (by omega) (fun j hj => absurd hj (Nat.not_lt_zero j))
theorem ctX3_commonFactor {d a b : Nat} (hd : 1 ≤ d) (ha : a < 9223372036854775808) (hb : b < 9223372036854775808) {σ : Sg} : Ct d MX3_commonFactor [lV (a : Int), lV (b : Int)] σ (.inl [lV (Nat.gcd a b : Int)]) σ := by
  refine (eX3_commonFactor (d := 0) ?_).mono hd
  intro X Xr Xt hC hr
  refine bX3_commonFactor_0 hC ?_
  have key := euc_ind (P := fun u v i => Nat.gcd u v = Nat.gcd a b → X 9 [lV (a : Int), uV, lV (b : Int), uV, lV (u : Int), uV, lV (v : Int), uV, iV (i : Int), uV, uV] [] σ) ?_ ?_ 98 a b 0 (Nat.lt_trans hb fib_100) (by omega) rfl
  · exact key
  · intro u i hi hg
    refine bX3_commonFactor_9 hC ?_
    rw [if_pos (by omega), if_pos (show ((0 : Nat) : Int) = 0 from rfl)]
    rw [Nat.gcd_zero_right] at hg
    rw [hg]
    exact hr
  · intro u v i hv hi ih hg
    refine bX3_commonFactor_9 hC ?_
    rw [if_pos (by omega), if_neg (by omega)]
    refine ⟨by omega, ?_⟩
    rw [tmod_nat, w32_s (by omega)]
    exact ih (by rw [gcd_step, hg])
theorem ctX11_shared {d a b : Nat} (hd : 1 ≤ d) {σ : Sg} : Ct d MX11_shared [lV (a : Int), lV (b : Int)] σ (.inl [lV (Nat.gcd a b : Int)]) σ := by
  refine (eX11_shared (d := 0) ?_).mono hd
  intro X Xr Xt hC hr
  refine bX11_shared_0 hC ?_
  have key : ∀ n v, v ≤ n → ∀ u : Nat, Nat.gcd u v = Nat.gcd a b → X 6 [lV (a : Int), uV, lV (b : Int), uV, lV (u : Int), uV, lV (v : Int), uV, uV, uV] [] σ := by
    intro n
    induction n with
    | zero =>
      intro v hv u hg
      have e : v = 0 := Nat.le_zero.mp hv
      rw [e] at hg ⊢
      refine bX11_shared_6 hC ?_
      rw [if_pos (show ((0 : Nat) : Int) = 0 from rfl)]
      rw [Nat.gcd_zero_right] at hg
      rw [hg]
      exact hr
    | succ n ih =>
      intro v hv u hg
      by_cases e : v = 0
      · exact ih v (by omega) u hg
      · refine bX11_shared_6 hC ?_
        rw [if_neg (by omega)]
        refine ⟨by omega, ?_⟩
        rw [tmod_nat]
        have := Nat.mod_lt u (by omega : v > 0)
        exact ih _ (by omega) _ (by rw [gcd_step, hg])
  exact key b b (Nat.le_refl b) a rfl
theorem ctX3_whole {d b n : Nat} (hd : 1 ≤ d) (hb : 1 ≤ b) (hn : n < 2147483648) (hp : b ^ n < 9223372036854775808) {σ : Sg} : Ct d MX3_whole [iV (b : Int), iV (n : Int)] σ (.inl [lV ((b ^ n : Nat) : Int)]) σ := by
  refine (eX3_whole (d := 0) ?_).mono hd
  intro X Xr Xt hC hr
  refine bX3_whole_0 hC ?_
  have key : ∀ k, k ≤ n → X 5 [iV (b : Int), iV (n : Int), lV ((b ^ k : Nat) : Int), uV, iV (k : Int)] [] σ := by
    refine loop_up (P := fun k => X 5 [iV (b : Int), iV (n : Int), lV ((b ^ k : Nat) : Int), uV, iV (k : Int)] [] σ) ?_ ?_
    · refine bX3_whole_5 hC ?_
      rw [if_neg (by omega)]
      exact hr
    · intro k hk ih
      refine bX3_whole_5 hC ?_
      rw [if_pos (by omega), ← Int.natCast_mul, (show b ^ k * b = b ^ (k + 1) from rfl), w32_s (by omega)]
      have : b ^ (k + 1) ≤ b ^ n := Nat.pow_le_pow_right hb (by omega)
      rw [w64_n (by omega)]
      exact ih
  exact key 0 (Nat.zero_le n)
theorem powstep (a b e m : Nat) : (a * b % m) * (b * b % m) ^ e % m = a * b ^ (2 * e + 1) % m := by
  rw [Nat.mul_mod, Nat.mod_mod, Nat.pow_mod (b * b % m), Nat.mod_mod, ← Nat.pow_mod, ← Nat.mul_mod, Nat.mul_assoc, ← Nat.pow_two, ← Nat.pow_mul, ← Nat.pow_succ']
theorem powstep0 (a b e m : Nat) : a * (b * b % m) ^ e % m = a * b ^ (2 * e) % m := by
  rw [Nat.mul_mod a, Nat.pow_mod (b * b % m), Nat.mod_mod, ← Nat.pow_mod, ← Nat.mul_mod, ← Nat.pow_two, ← Nat.pow_mul]
theorem mul_lt9 {a b m : Nat} (hm : m ≤ 1000000000) (ha : a < m) (hb : b < m) : a * b < 1000000000000000000 := by
  have h1 : a * b ≤ 999999999 * 999999999 := Nat.mul_le_mul (by omega) (by omega)
  omega
theorem ctX3_power {d a e m : Nat} (hd : 1 ≤ d) (he : e < 2147483648) (hm0 : 1 ≤ m) (hm : m ≤ 1000000000) {σ : Sg} : Ct d MX3_power [lV (a : Int), iV (e : Int), lV (m : Int)] σ (.inl [lV ((a ^ e % m : Nat) : Int)]) σ := by
  refine (eX3_power (d := 0) ?_).mono hd
  intro X Xr Xt hC hr
  refine bX3_power_0 hC ?_
  rw [if_neg (by omega)]
  refine ⟨by omega, by omega, ?_⟩
  have key : ∀ f i : Nat, i + f = 32 → ∀ x y g : Nat, x < m → y < m → g < 2 ^ f → x * y ^ g % m = a ^ e % m → X 24 [lV (a : Int), uV, iV (e : Int), lV (m : Int), uV, lV (x : Int), uV, lV (y : Int), uV, iV (g : Int), iV (i : Int)] [] σ := by
    intro f
    induction f with
    | zero =>
      intro i hi x y g hx hy hg h
      refine bX3_power_24 hC ?_
      have : g = 0 := by simp at hg; exact hg
      rw [if_neg (by omega)]
      rw [this, Nat.pow_zero, Nat.mul_one, Nat.mod_eq_of_lt hx] at h
      rw [h]
      exact hr
    | succ f ih =>
      intro i hi x y g hx hy hg h
      refine bX3_power_24 hC ?_
      rw [if_pos (by omega)]
      by_cases h0 : g = 0
      · rw [if_neg (by omega)]
        rw [h0, Nat.pow_zero, Nat.mul_one, Nat.mod_eq_of_lt hx] at h
        rw [h]
        exact hr
      rw [if_pos (by omega)]
      have h1 := mul_lt9 hm hx hy
      have h2 := mul_lt9 hm hy hy
      have hg32 : g < 4294967296 := by
        have : 2 ^ (f + 1) ≤ 2 ^ 32 := Nat.pow_le_pow_right (by decide) (by omega)
        omega
      have hg2 : g / 2 < 2 ^ f := by rw [Nat.pow_succ] at hg; omega
      have t2 : (g : Int).tmod 2 = ((g % 2 : Nat) : Int) := tmod_nat g 2
      have d2 : (g : Int).tdiv 2 = ((g / 2 : Nat) : Int) := tdiv_nat g 2
      rw [t2, d2, w32_n (by omega), w32_s (by omega), ← Int.natCast_mul, ← Int.natCast_mul, w64_n (by omega), w64_n (by omega), tmod_nat, tmod_nat]
      by_cases hb : g % 2 = 1
      · rw [if_pos (by omega)]
        refine ⟨by omega, by omega, ?_⟩
        refine ih (i + 1) (by omega) _ _ _ (Nat.mod_lt _ (by omega)) (Nat.mod_lt _ (by omega)) hg2 ?_
        rw [powstep, show 2 * (g / 2) + 1 = g by omega]
        exact h
      · rw [if_neg (by omega)]
        refine ⟨by omega, ?_⟩
        refine ih (i + 1) (by omega) _ _ _ hx (Nat.mod_lt _ (by omega)) hg2 ?_
        rw [powstep0, show 2 * (g / 2) = g by omega]
        exact h
  rw [show (1 : Int).tmod (m : Int) = ((1 % m : Nat) : Int) from tmod_nat 1 m, tmod_nat]
  refine key 32 0 (by omega) _ _ _ (Nat.mod_lt _ (by omega)) (Nat.mod_lt _ (by omega)) (by omega) ?_
  rw [Nat.mul_mod, Nat.mod_mod, ← Nat.pow_mod, ← Nat.mul_mod, Nat.one_mul]
theorem and1 (n : Nat) : n &&& 1 = n % 2 := Nat.and_one_is_mod n
theorem ctX11_powerBy {d a e m : Nat} (hd : 1 ≤ d) (he : e < 2147483648) (hm0 : 1 ≤ m) (hm : m ≤ 1000000000) {σ : Sg} : Ct d MX11_powerBy [lV (a : Int), iV (e : Int), lV (m : Int)] σ (.inl [lV ((a ^ e % m : Nat) : Int)]) σ := by
  refine (eX11_powerBy (d := 0) ?_).mono hd
  intro X Xr Xt hC hr
  refine bX11_powerBy_0 hC ?_
  refine ⟨by omega, by omega, ?_⟩
  have key : ∀ n g : Nat, g ≤ n → ∀ x y : Nat, x < m → y < m → g < 2147483648 → x * y ^ g % m = a ^ e % m → X 13 [lV (a : Int), uV, iV (e : Int), lV (m : Int), uV, lV (x : Int), uV, lV (y : Int), uV, iV (g : Int)] [] σ := by
    intro n
    induction n with
    | zero =>
      intro g hg x y hx hy hl h
      refine bX11_powerBy_13 hC ?_
      have : g = 0 := Nat.le_zero.mp hg
      rw [if_neg (by omega)]
      rw [this, Nat.pow_zero, Nat.mul_one, Nat.mod_eq_of_lt hx] at h
      rw [h]
      exact hr
    | succ n ih =>
      intro g hg x y hx hy hl h
      by_cases h0 : g = 0
      · exact ih g (by omega) x y hx hy hl h
      refine bX11_powerBy_13 hC ?_
      rw [if_pos (by omega)]
      have h1 := mul_lt9 hm hx hy
      have h2 := mul_lt9 hm hy hy
      have t2 : iandI (g : Int) 1 = ((g % 2 : Nat) : Int) := by
        have q := iand_nat (a := g) (b := 1) hl (by decide)
        rw [and1] at q
        exact q
      have d2 : ishrI (g : Int) 1 = ((g / 2 : Nat) : Int) := ishr_nat (k := 1) (by decide) hl
      rw [t2, d2, ← Int.natCast_mul, ← Int.natCast_mul, w64_n (by omega), w64_n (by omega), tmod_nat, tmod_nat]
      by_cases hb : g % 2 = 1
      · rw [if_pos (by omega)]
        refine ⟨by omega, by omega, ?_⟩
        refine ih _ (by omega) _ _ (Nat.mod_lt _ (by omega)) (Nat.mod_lt _ (by omega)) (by omega) ?_
        rw [powstep, show 2 * (g / 2) + 1 = g by omega]
        exact h
      · rw [if_neg (by omega)]
        refine ⟨by omega, ?_⟩
        refine ih _ (by omega) _ _ hx (Nat.mod_lt _ (by omega)) (by omega) ?_
        rw [powstep0, show 2 * (g / 2) = g by omega]
        exact h
  rw [show (1 : Int).tmod (m : Int) = ((1 % m : Nat) : Int) from tmod_nat 1 m, tmod_nat]
  refine key e e (Nat.le_refl e) _ _ (Nat.mod_lt _ (by omega)) (Nat.mod_lt _ (by omega)) he ?_
  rw [Nat.mul_mod, Nat.mod_mod, ← Nat.pow_mod, ← Nat.mul_mod, Nat.one_mul]
/-- the least k from 1 on with n ≤ k * k -/
def raGo (n : Nat) : Nat → Nat → Nat
  | 0, k => k
  | f + 1, k => if k * k < n then raGo n f (k + 1) else k
def rootA (n : Nat) : Nat := raGo n 999 1
theorem ctX3_rootAbove {d n : Nat} (hd : 1 ≤ d) (hn : n ≤ 1000000) {σ : Sg} : Ct d MX3_rootAbove [iV (n : Int)] σ (.inl [iV (rootA n : Int)]) σ := by
  refine (eX3_rootAbove (d := 0) ?_).mono hd
  intro X Xr Xt hC hr
  refine bX3_rootAbove_0 hC ?_
  have key : ∀ f k : Nat, k + f = 1000 → raGo n f k = rootA n → X 2 [iV (n : Int), iV (k : Int)] [] σ := by
    intro f
    induction f with
    | zero =>
      intro k hk he
      refine bX3_rootAbove_2 hC ?_
      have : k = 1000 := by simpa using hk
      rw [if_neg (by omega)]
      have e2 := hr
      rw [← (show k = rootA n from he)] at e2
      exact e2
    | succ f ih =>
      intro k hk he
      refine bX3_rootAbove_2 hC ?_
      rw [if_pos (by omega), w32_sq (by omega)]
      unfold raGo at he
      by_cases h1 : k * k < n
      · rw [if_pos h1] at he
        rw [if_pos (by omega), w32_s (by omega)]
        exact ih (k + 1) (by omega) he
      · rw [if_neg h1] at he
        rw [if_neg (by omega)]
        have e2 := hr
        rw [← he] at e2
        exact e2
  exact key 999 1 rfl rfl
/-- k divided out of n as often as it goes -/
def strp (k : Nat) : Nat → Nat → Nat
  | 0, n => n
  | f + 1, n => if n % k = 0 then strp k f (n / k) else n
theorem strp_s {k f n : Nat} (h : n % k = 0) : strp k (f + 1) n = strp k f (n / k) := if_pos h
theorem strp_n {k f n : Nat} (h : ¬ n % k = 0) : strp k f n = n := by
  cases f with
  | zero => rfl
  | succ f => exact if_neg h
theorem strp_pos {k : Nat} : ∀ {f n : Nat}, 0 < n → 0 < strp k f n := by
  intro f
  induction f with
  | zero => intro n h; exact h
  | succ f ih =>
    intro n h
    by_cases e : n % k = 0
    · rw [strp_s e]
      refine ih ?_
      have := Nat.div_add_mod n k
      rw [e, Nat.add_zero] at this
      cases hq : n / k with
      | zero => rw [hq, Nat.mul_zero] at this; omega
      | succ q => exact Nat.succ_pos q
    · rw [strp_n e]; exact h
theorem strp_le {k : Nat} : ∀ {f n : Nat}, strp k f n ≤ n := by
  intro f
  induction f with
  | zero => intro n; exact Nat.le_refl n
  | succ f ih =>
    intro n
    by_cases e : n % k = 0
    · rw [strp_s e]; exact Nat.le_trans ih (Nat.div_le_self n k)
    · rw [strp_n e]; exact Nat.le_refl n
/-- more rounds than bits change nothing -/
theorem strp_stable {k : Nat} (hk : 2 ≤ k) : ∀ {f n : Nat}, 0 < n → n < 2 ^ f → ¬ strp k f n % k = 0 ∧ ∀ g, f ≤ g → strp k g n = strp k f n := by
  intro f
  induction f with
  | zero => intro n h1 h2; exact absurd h2 (by show ¬ n < 1; omega)
  | succ f ih =>
    intro n h1 h2
    by_cases e : n % k = 0
    · have e1 := Nat.div_add_mod n k
      rw [e, Nat.add_zero] at e1
      have hp : 0 < n / k := by
        cases hq : n / k with
        | zero => rw [hq, Nat.mul_zero] at e1; omega
        | succ q => exact Nat.succ_pos q
      have hl : n / k < 2 ^ f := by
        rw [Nat.pow_succ] at h2
        have : n / k * 2 ≤ n / k * k := Nat.mul_le_mul_left _ hk
        rw [Nat.mul_comm (n / k) k, e1] at this
        omega
      have := ih hp hl
      rw [strp_s e]
      refine ⟨this.1, ?_⟩
      intro g hg
      match g, hg with
      | 0, hg => exact absurd hg (by omega)
      | g + 1, hg => rw [strp_s e]; exact this.2 g (by omega)
    · rw [strp_n e]
      exact ⟨e, fun g _ => strp_n e⟩
/-- the class's way: the first j primes divided out -/
def prmN (j : Nat) : Nat := (prm j).toNat
theorem prm_nat : ∀ j : Fin 25, prm j.val = ((prmN j.val : Nat) : Int) := by decide
theorem prm_n {j : Nat} (h : j < 25) : prm j = ((prmN j : Nat) : Int) := prm_nat ⟨j, h⟩
theorem prmN_ge : ∀ j : Fin 25, 2 ≤ prmN j.val ∧ prmN j.val ≤ 97 := by decide
def stC (n : Nat) : Nat → Nat
  | 0 => n
  | j + 1 => strp (prmN j) 32 (stC n j)
/-- the reference's way: all numbers from 2 on -/
def stM (n : Nat) : Nat → Nat
  | 0 => n
  | m + 1 => strp (m + 2) 32 (stM n m)
def cntP (p : Nat) : Nat := ((List.range 25).filter (fun j => decide (prmN j ≤ p))).length
theorem cntP_iff : ∀ p : Fin 98, ∀ j : Fin 25, prmN j.val ≤ p.val ↔ j.val < cntP p.val := by decide +kernel
theorem cntP_le (p : Nat) : cntP p ≤ 25 := Nat.le_trans (List.length_filter_le _ _) (by decide)
theorem strp_one {k : Nat} (hk : 2 ≤ k) (f : Nat) : strp k f 1 = 1 := strp_n (by rw [Nat.mod_eq_of_lt (by omega)]; decide)
theorem stC_le (n : Nat) : ∀ j, stC n j ≤ n := by
  intro j
  induction j with
  | zero => exact Nat.le_refl n
  | succ j ih => exact Nat.le_trans strp_le ih
theorem stC_pos {n : Nat} (h : 0 < n) : ∀ j, 0 < stC n j := by
  intro j
  induction j with
  | zero => exact h
  | succ j ih => exact strp_pos ih
theorem stM_le (n : Nat) : ∀ j, stM n j ≤ n := by
  intro j
  induction j with
  | zero => exact Nat.le_refl n
  | succ j ih => exact Nat.le_trans strp_le ih
theorem stM_pos {n : Nat} (h : 0 < n) : ∀ j, 0 < stM n j := by
  intro j
  induction j with
  | zero => exact h
  | succ j ih => exact strp_pos ih
theorem strp_dvd {k : Nat} : ∀ {f n : Nat}, strp k f n ∣ n := by
  intro f
  induction f with
  | zero => intro n; exact Nat.dvd_refl n
  | succ f ih =>
    intro n
    by_cases e : n % k = 0
    · rw [strp_s e]
      exact Nat.dvd_trans ih (Nat.div_dvd_of_dvd (Nat.dvd_of_mod_eq_zero e))
    · rw [strp_n e]; exact Nat.dvd_refl n
theorem stM_free {n : Nat} (h0 : 0 < n) (hn : n < 4294967296) : ∀ m q, 2 ≤ q → q ≤ m + 1 → ¬ q ∣ stM n m := by
  intro m
  induction m with
  | zero => intro q h1 h2; exact absurd h2 (by omega)
  | succ m ih =>
    intro q h1 h2 hd
    by_cases e : q = m + 2
    · have hs := (strp_stable (k := m + 2) (f := 32) (by omega) (stM_pos h0 m) (Nat.lt_of_le_of_lt (stM_le n m) hn)).1
      rw [e] at hd
      exact hs (Nat.mod_eq_zero_of_dvd hd)
    · exact ih q h1 (by omega) (Nat.dvd_trans hd strp_dvd)
theorem comp_lf : ∀ k : Fin 98, 2 ≤ k.val → isPr k.val = false → 2 ≤ lf k.val ∧ lf k.val < k.val ∧ k.val % lf k.val = 0 := by decide +kernel
theorem cnt_prime : ∀ k : Fin 97, isPr (k.val + 1) = true → prmN (cntP k.val) = k.val + 1 ∧ cntP (k.val + 1) = cntP k.val + 1 := by decide +kernel
theorem cnt_comp : ∀ k : Fin 97, isPr (k.val + 1) = false → cntP (k.val + 1) = cntP k.val := by decide +kernel
theorem stM_stC {n : Nat} (h0 : 0 < n) (hn : n < 4294967296) : ∀ m, m ≤ 96 → stM n m = stC n (cntP (m + 1)) := by
  intro m
  induction m with
  | zero => intro _; rfl
  | succ m ih =>
    intro hm
    have ih := ih (by omega)
    cases hp : isPr (m + 1 + 1) with
    | true =>
      have := cnt_prime ⟨m + 1, by omega⟩ hp
      rw [this.2]
      show strp (m + 2) 32 (stM n m) = strp (prmN (cntP (m + 1))) 32 (stC n (cntP (m + 1)))
      rw [this.1, ih]
    | false =>
      have := cnt_comp ⟨m + 1, by omega⟩ hp
      rw [this]
      show strp (m + 2) 32 (stM n m) = stC n (cntP (m + 1))
      rw [← ih]
      refine strp_n ?_
      intro hd
      have hl := comp_lf ⟨m + 1 + 1, by omega⟩ (by show 2 ≤ m + 1 + 1; omega) hp
      exact stM_free h0 hn m (lf (m + 1 + 1)) hl.1 (by have := hl.2.1; simp at this; omega) (Nat.dvd_trans (Nat.dvd_of_mod_eq_zero hl.2.2) (Nat.dvd_of_mod_eq_zero hd))
theorem ctX3_isSmooth {d n p : Nat} (hd : 1 ≤ d) (h0 : 0 < n) (hn : n ≤ 1000000000) (hp : p ≤ 97) {σ : Sg} : Ct d MX3_isSmooth [iV (n : Int), iV (p : Int)] σ (.inl [iV (b01 (decide (stC n (cntP p) = 1)))]) σ := by
  refine (eX3_isSmooth (d := 0) ?_).mono hd
  intro X Xr Xt hC hr
  refine bX3_isSmooth_0 hC ?_
  have hend : ∀ s : Nat, s = stC n (cntP p) → (if (s : Int) = 1 then Xr [iV 1] σ else Xr [iV 0] σ) := by
    intro s hs
    by_cases e : s = 1
    · rw [if_pos (by omega)]
      rw [← hs, decide_eq_true e] at hr
      exact hr
    · rw [if_neg (by omega)]
      rw [← hs, decide_eq_false e] at hr
      exact hr
  have hone : ∀ j k, stC n j = 1 → j ≤ k → k ≤ 25 → stC n k = 1 := by
    intro j k h1 hk
    induction k with
    | zero => intro _; rw [show j = 0 from Nat.le_zero.mp hk] at h1; exact h1
    | succ k ih =>
      intro h25
      by_cases e : j = k + 1
      · rw [← e]; exact h1
      · show strp (prmN k) 32 (stC n k) = 1
        rw [ih (by omega) (by omega)]
        exact strp_one (prmN_ge ⟨k, by omega⟩).1 32
  have key : ∀ j, j ≤ cntP p → ∀ s : Nat, s = stC n j → X 4 [iV (n : Int), iV (p : Int), iV (s : Int), iV (j : Int), uV] [] σ := by
    have hc := cntP_le p
    refine loop_up (P := fun j => ∀ s : Nat, s = stC n j → X 4 [iV (n : Int), iV (p : Int), iV (s : Int), iV (j : Int), uV] [] σ) ?_ ?_
    · intro s hs
      refine bX3_isSmooth_4 hC ?_
      by_cases hj : cntP p < 25
      · rw [if_pos (by omega)]
        refine ⟨by omega, ?_⟩
        rw [Int.toNat_natCast, prm_n hj]
        have := cntP_iff ⟨p, by omega⟩ ⟨cntP p, hj⟩
        have : ¬ prmN (cntP p) ≤ p := fun q => absurd (this.mp q) (Nat.lt_irrefl _)
        rw [if_pos (by omega)]
        exact hend s hs
      · rw [if_neg (by omega)]
        exact hend s hs
    · intro j hj ih s hs
      refine bX3_isSmooth_4 hC ?_
      rw [if_pos (by omega)]
      refine ⟨by omega, ?_⟩
      rw [Int.toNat_natCast, prm_n (show j < 25 by omega)]
      have hle := (cntP_iff ⟨p, by omega⟩ ⟨j, by omega⟩).mpr hj
      have hle : prmN j ≤ p := hle
      rw [if_neg (by omega)]
      have hsp : 0 < s := by rw [hs]; exact stC_pos h0 j
      by_cases h1 : s = 1
      · rw [if_neg (by omega)]
        rw [h1] at hs
        rw [h1]
        exact hend 1 (hone j (cntP p) hs.symm (by omega) hc).symm
      rw [if_pos (by omega)]
      have hg := prmN_ge ⟨j, by omega⟩
      have hg : 2 ≤ prmN j ∧ prmN j ≤ 97 := hg
      have hsn : s ≤ n := by rw [hs]; exact stC_le n j
      have key2 : ∀ f i : Nat, i + f = 32 → ∀ t : Nat, t ≤ 1000000000 → strp (prmN j) f t = stC n (j + 1) → X 29 [iV (n : Int), iV (p : Int), iV (t : Int), iV (j : Int), iV (i : Int)] [] σ := by
        intro f
        induction f with
        | zero =>
          intro i hi t ht h
          refine bX3_isSmooth_29 hC ?_
          have : i = 32 := by simpa using hi
          rw [if_neg (by omega), w32_s (by omega)]
          exact ih t h
        | succ f ihf =>
          intro i hi t ht h
          refine bX3_isSmooth_29 hC ?_
          rw [if_pos (by omega)]
          refine ⟨by omega, ?_⟩
          rw [Int.toNat_natCast, prm_n (show j < 25 by omega)]
          refine ⟨by show ((prmN j : Nat) : Int) ≠ 0; omega, ?_⟩
          rw [tmod_nat, tdiv_nat]
          by_cases e : t % prmN j = 0
          · rw [strp_s e] at h
            rw [if_pos (by show ((t % prmN j : Nat) : Int) = 0; rw [e]; rfl)]
            refine ⟨by omega, by show ((prmN j : Nat) : Int) ≠ 0; omega, ?_⟩
            have hd : t / prmN j ≤ t := Nat.div_le_self t (prmN j)
            rw [w32_n (by show t / prmN j < _; omega), w32_s (by omega)]
            exact ihf (i + 1) (by omega) _ (Nat.le_trans hd ht) h
          · rw [strp_n e] at h
            rw [if_neg (by show ¬ ((t % prmN j : Nat) : Int) = 0; omega), w32_s (by omega)]
            exact ih t h
      exact key2 32 0 rfl s (by omega) (by rw [hs]; rfl)
  exact key 0 (Nat.zero_le _) n rfl
