/-! DIGITS of codes -/
def cdB (B : Nat) (v : Nat → Nat) (n : Nat) : Nat := sumN (fun c => v c * B ^ c) n
def dgB (B D c : Nat) : Nat := D / B ^ c % B
theorem cdB_s (B : Nat) (v : Nat → Nat) (n : Nat) : cdB B v (n + 1) = cdB B v n + v n * B ^ n := rfl
theorem cdB_ok {B : Nat} (hB : 0 < B) {v : Nat → Nat} : ∀ n, (∀ c, c < n → v c < B) → cdB B v n < B ^ n ∧ ∀ c, c < n → dgB B (cdB B v n) c = v c := by
  intro n
  induction n with
  | zero => intro _; exact ⟨Nat.one_pos, fun c h => absurd h (Nat.not_lt_zero c)⟩
  | succ n ih =>
    intro h
    obtain ⟨h1, h2⟩ := ih (fun c hc => h c (by omega))
    have hv := h n (by omega)
    rw [cdB_s]
    refine ⟨?_, ?_⟩
    · rw [Nat.pow_succ]
      have : (v n + 1) * B ^ n ≤ B * B ^ n := Nat.mul_le_mul_right _ hv
      rw [Nat.succ_mul, Nat.mul_comm B] at this
      omega
    · intro c hc
      unfold dgB
      have hp : 0 < B ^ c := Nat.pow_pos hB
      have e : v n * B ^ n = B ^ c * (v n * B ^ (n - c)) := by
        rw [Nat.mul_left_comm, ← Nat.pow_add, show c + (n - c) = n by omega]
      rw [e, Nat.add_mul_div_left _ _ hp]
      by_cases q : c = n
      · rw [q, Nat.sub_self, Nat.pow_zero, Nat.mul_one, Nat.div_eq_of_lt h1, Nat.zero_add, Nat.mod_eq_of_lt hv]
      · have e2 : v n * B ^ (n - c) = B * (v n * B ^ (n - c - 1)) := by
          rw [Nat.mul_left_comm, ← Nat.pow_succ', show (n - c - 1).succ = n - c by omega]
        rw [e2, Nat.add_mul_mod_self_left]
        exact h2 c (by omega)
theorem cdB_dg (B D : Nat) : ∀ n, cdB B (dgB B D) n = D % B ^ n := by
  intro n
  induction n with
  | zero => rw [Nat.pow_zero, Nat.mod_one]; rfl
  | succ n ih => rw [cdB_s, ih, Nat.mod_pow_succ, Nat.mul_comm (B ^ n)]; rfl
theorem cdB_congr {B : Nat} {v u : Nat → Nat} {n : Nat} (h : ∀ c, c < n → v c = u c) : cdB B v n = cdB B u n := sumN_congr (fun c hc => by rw [h c hc])
theorem cdB_lo {B : Nat} {v : Nat → Nat} {m n : Nat} (h : m ≤ n) (hz : ∀ c, m ≤ c → c < n → v c = 0) : cdB B v n = cdB B v m := sumN_zero h (fun i h1 h2 => by rw [hz i h1 h2, Nat.zero_mul])
abbrev dg (D c : Nat) : Nat := dgB 10 D c
def okD (N : Tn) (D : Nat) : Prop := D < 10 ^ 8 ∧ (∀ c, c < 8 → N 1 ≤ c → dg D c = 0) ∧ sumN (dg D) 8 ≤ 9
theorem dg_le {D c : Nat} : dg D c ≤ 9 := by unfold dg dgB; omega
def pkc (D : Nat) : Nat := cdB 16 (dg D) 8
theorem pkc_lt (D : Nat) : pkc D < 4294967296 := (cdB_ok (B := 16) (by decide) 8 (fun c _ => Nat.lt_of_le_of_lt dg_le (by decide))).1
theorem pkc_dg (D : Nat) {c : Nat} (hc : c < 8) : dgB 16 (pkc D) c = dg D c := (cdB_ok (B := 16) (by decide) 8 (fun c _ => Nat.lt_of_le_of_lt dg_le (by decide))).2 c hc
theorem code_of {v : Nat → Nat} (h : ∀ c, c < 8 → v c ≤ 9) : cdB 10 v 8 < 10 ^ 8 ∧ ∀ c, c < 8 → dg (cdB 10 v 8) c = v c := cdB_ok (by decide) 8 (fun c hc => Nat.lt_of_le_of_lt (h c hc) (by decide))
theorem code_ext {D E : Nat} (h1 : D < 10 ^ 8) (h2 : E < 10 ^ 8) (h : ∀ c, c < 8 → dg D c = dg E c) : D = E := by
  have e1 := cdB_dg 10 D 8
  have e2 := cdB_dg 10 E 8
  rw [Nat.mod_eq_of_lt h1] at e1
  rw [Nat.mod_eq_of_lt h2] at e2
  rw [← e1, ← e2]
  exact cdB_congr h
theorem pkc_code {v : Nat → Nat} (h : ∀ c, c < 8 → v c ≤ 9) : pkc (cdB 10 v 8) = cdB 16 v 8 := cdB_congr (fun c hc => (code_of h).2 c hc)
/-! shifts and fifteen -/
theorem iand_15 (x : Int) : iandI x 15 = x % 16 := by
  unfold iandI
  have e : ((Int32.ofInt x &&& Int32.ofInt 15).toBitVec).toNat = (x % 16).toNat := by
    rw [Int32.toBitVec_and, BitVec.toNat_and]
    have e1 : (Int32.ofInt 15).toBitVec.toNat = 2 ^ 4 - 1 := by decide
    have e2 : (Int32.ofInt x).toBitVec.toNat = (x % 4294967296).toNat := by
      show (BitVec.ofInt 32 x).toNat = _
      rw [BitVec.toNat_ofInt]
      rfl
    rw [e1, e2, Nat.and_two_pow_sub_one_eq_mod]
    omega
  show ((Int32.ofInt x &&& Int32.ofInt 15).toBitVec).toInt = _
  have hl : ((Int32.ofInt x &&& Int32.ofInt 15).toBitVec).toNat < 16 := by rw [e]; omega
  rw [BitVec.toInt_eq_toNat_cond, if_pos (by omega), e]
  omega
theorem iushr_0 (x : Int) : iushrI x 0 = w32 x := by
  unfold iushrI
  show (((Int32.ofInt x).toUInt32 >>> ((Int32.ofInt ((0 : Nat) : Int)).toUInt32 &&& Int32.toUInt32 31)).toBitVec).toInt = _
  rw [UInt32.toBitVec_shiftRight]
  rw [show ((Int32.ofInt ((0 : Nat) : Int)).toUInt32 &&& Int32.toUInt32 31).toBitVec % 32 = BitVec.ofNat 32 0 from ushk (by decide)]
  show (BitVec.ofInt 32 x >>> BitVec.ofNat 32 0).toInt = _
  rw [BitVec.ushiftRight_eq', show (BitVec.ofNat 32 0).toNat = 0 from rfl, BitVec.ushiftRight_zero, BitVec.toInt_ofInt, Int.bmod_def]
  show (if x % 4294967296 < (4294967296 + 1) / 2 then x % 4294967296 else x % 4294967296 - 4294967296) = w32 x
  unfold w32
  split <;> omega
theorem w32_mod (P : Nat) (h : P < 4294967296) : (w32 (P : Int) % 4294967296).toNat = P := by unfold w32; omega
theorem oft_v {P c : Nat} (hP : P < 4294967296) (hc : c < 8) : iandI (iushrI (w32 (P : Int)) (w32 (4 * (c : Int)))) 15 = (dgB 16 P c : Int) := by
  have e4 : w32 (4 * (c : Int)) = ((4 * c : Nat) : Int) := by unfold w32; omega
  rw [e4, iand_15]
  unfold dgB
  by_cases z : c = 0
  · rw [z]
    have e0 : iushrI (w32 (P : Int)) ((4 * 0 : Nat) : Int) = w32 (w32 (P : Int)) := iushr_0 _
    rw [e0, Nat.pow_zero, Nat.div_one]
    clear e0 e4
    unfold w32
    omega
  · rw [iushr_any (by omega) (by omega), w32_mod P hP]
    have ep : (16 : Nat) ^ c = 2 ^ (4 * c) := by rw [Nat.pow_mul]
    rw [ep]
    exact (Int.natCast_emod _ 16).symm
theorem ctX6_often {d P c : Nat} (hd : 1 ≤ d) (hP : P < 4294967296) (hc : c < 8) {σ : Sg} : Ct d MX6_often [iV (w32 (P : Int)), iV (c : Int)] σ (.inl [iV (dgB 16 P c : Int)]) σ := by
  refine (eX6_often (d := 0) ?_).mono hd
  intro X Xr Xt hC hr
  refine bX6_often_0 hC ?_
  rw [oft_v hP hc]
  exact hr
theorem ctX11_ten {d c : Nat} (hd : 1 ≤ d) (hc : c ≤ 8) {σ : Sg} : Ct d MX11_ten [iV (c : Int)] σ (.inl [iV ((10 ^ c : Nat) : Int)]) σ := by
  refine (eX11_ten (d := 0) ?_).mono hd
  intro X Xr Xt hC hr
  refine bX11_ten_0 hC ?_
  have key : ∀ k, k ≤ c → ∀ y : Nat, y = 10 ^ k → X 4 [iV (c : Int), iV (y : Int), iV (k : Int)] [] σ := by
    refine loop_up (P := fun k => ∀ y : Nat, y = 10 ^ k → X 4 [iV (c : Int), iV (y : Int), iV (k : Int)] [] σ) ?_ ?_
    · intro y hy
      refine bX11_ten_4 hC ?_
      rw [if_neg (by omega), hy]
      exact hr
    · intro k hk ih y hy
      refine bX11_ten_4 hC ?_
      have hb : 10 ^ (k + 1) ≤ 10 ^ 8 := Nat.pow_le_pow_right (by decide) (by omega)
      have e : y * 10 = 10 ^ (k + 1) := by rw [hy]; rfl
      have e2 : w32 ((y : Int) * 10) = ((10 ^ (k + 1) : Nat) : Int) := by
        have : (y : Int) * 10 = ((y * 10 : Nat) : Int) := by omega
        rw [this, e, w32_n (Nat.lt_of_le_of_lt hb (by decide))]
      rw [if_pos (by clear e2 hb e hy; omega), e2, w32_s (by clear e2 hb e hy; omega)]
      exact ih _ rfl
  exact key 0 (Nat.zero_le _) 1 rfl
theorem ten_dg {D c : Nat} (hD : D < 10 ^ 8) : (w32 ((D : Int).tdiv ((10 ^ c : Nat) : Int))).tmod 10 = (dg D c : Int) := by
  have h1 := Nat.div_le_self D (10 ^ c)
  have h2 : D < 100000000 := hD
  rw [tdiv_nat, w32_n (show D / 10 ^ c < 2147483648 by omega)]
  exact tmod_nat (D / 10 ^ c) 10
theorem ten_pos (c : Nat) : ((10 ^ c : Nat) : Int) ≠ 0 := by
  have : 0 < 10 ^ c := Nat.pow_pos (by decide)
  omega
