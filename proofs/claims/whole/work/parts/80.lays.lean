/-! the reference's row of prices -/
def lR (N : Tn) (p : Nat) : Nat → Nat → Nat
  | 0 => fun _ => 1
  | c + 1 => fun k => lR N p c (k % fM N p c) * N (4 + c) ^ (k / fM N p c)
theorem lR_s (N : Tn) (p c k : Nat) : lR N p (c + 1) k = lR N p c (k % fM N p c) * N (4 + c) ^ (k / fM N p c) := rfl
theorem lR_lo (N : Tn) (p c : Nat) {k : Nat} (hk : k < fM N p c) : lR N p (c + 1) k = lR N p c k := by
  rw [lR_s, Nat.mod_eq_of_lt hk, Nat.div_eq_of_lt hk, Nat.pow_zero, Nat.mul_one]
theorem lR_at (N : Tn) (p c : Nat) {i j : Nat} (hj : j < fM N p c) : lR N p (c + 1) (fM N p c * i + j) = lR N p c j * N (4 + c) ^ i := by
  rw [lR_s, Nat.mul_add_mod, Nat.mod_eq_of_lt hj, Nat.mul_add_div (fM_pos N p c), Nat.div_eq_of_lt hj, Nat.add_zero]
theorem lR_ok {N : Tn} (hW : WFN N) {p : Nat} : ∀ c, c ≤ N 1 → (∀ k, k < fM N p c → 1 ≤ lR N p c k ∧ lR N p c k ≤ wP N p c) ∧ (∀ P : Nat → Nat, sumN (fun k => P (lR N p c k)) (fM N p c) = GP N p c P) := by
  intro c
  induction c with
  | zero => intro _; exact ⟨fun _ _ => ⟨Nat.le_refl 1, Nat.le_refl 1⟩, fun P => by show 0 + P 1 = P 1; omega⟩
  | succ c ih =>
    intro hc
    obtain ⟨g1, g2⟩ := ih (by omega)
    have hq := hW.2.1 c hc
    have h0 := fM_pos N p c
    refine ⟨?_, ?_⟩
    · intro k hk
      rw [fM_s] at hk
      rw [lR_s]
      have a1 := g1 (k % fM N p c) (Nat.mod_lt _ h0)
      have a2 : k / fM N p c < hN N p c + 1 := Nat.div_lt_of_lt_mul hk
      refine ⟨Nat.mul_pos a1.1 (Nat.pow_pos (by omega)), ?_⟩
      exact Nat.mul_le_mul a1.2 (Nat.pow_le_pow_right (by omega) (by omega))
    · intro P
      rw [fM_s, sumN_m, GP_s]
      refine sumN_congr (fun i _ => ?_)
      rw [← g2]
      exact sumN_congr (fun j hj => by rw [lR_at N p c hj])
def rP (τ : Sg) (n : Nat) (F : Nat → Nat) : Sg := upS (stS τ 74 n (fun j => (F j : Int))) 66 20 (n : Int)
theorem rP_n {τ : Sg} {n : Nat} {F : Nat → Nat} : rP τ n F 66 20 = (n : Int) := ups_eq
theorem rP_k {τ : Sg} {n k : Nat} {F : Nat → Nat} (h : k < n) : rP τ n F 74 k = (F k : Int) := by unfold rP; rw [ups_cell (by decide), stS_in h]
theorem rP_cell {τ : Sg} {n b : Nat} {F : Nat → Nat} (h1 : b ≠ 74) (h2 : b ≠ 66) : rP τ n F b = τ b := by unfold rP; rw [ups_cell h2, stS_cell h1]
theorem rP_66 {τ : Sg} {n k : Nat} {F : Nat → Nat} (h : k ≠ 20) : rP τ n F 66 k = τ 66 k := by unfold rP; rw [ups_ne (Or.inr h), stS_cell (by decide)]
theorem rP_s {τ : Sg} {n : Nat} {F : Nat → Nat} : upS (upS (rP τ n F) 74 n (F n : Int)) 66 20 ((n + 1 : Nat) : Int) = rP τ (n + 1) F := by
  unfold rP
  rw [ups_comm (show 66 ≠ 74 by decide), ups_ups]
  congr 1
  funext b j
  unfold upS stS
  by_cases h : b = 74 ∧ j = n
  · rw [if_pos h, if_pos (by omega), h.2]
  · rw [if_neg h]
    by_cases h2 : b = 74 ∧ j < n
    · rw [if_pos h2, if_pos (by omega)]
    · rw [if_neg h2, if_neg (by omega)]
theorem rP_congr {τ : Sg} {n : Nat} {F G : Nat → Nat} (h : ∀ k, k < n → F k = G k) : rP τ n F = rP τ n G := by
  unfold rP
  congr 1
  funext b j
  unfold stS
  by_cases q : b = 74 ∧ j < n
  · rw [if_pos q, if_pos q]
    show (F j : Int) = (G j : Int)
    rw [h j q.2]
  · rw [if_neg q, if_neg q]
theorem rP_ud {τ : Sg} {n k v : Nat} {F : Nat → Nat} (h : k < n) : upS (rP τ n F) 74 k (v : Int) = rP τ n (ud F k v) := by
  unfold rP
  rw [ups_comm (show 66 ≠ 74 by decide)]
  congr 1
  funext b j
  unfold upS stS ud
  by_cases q : b = 74 ∧ j = k
  · rw [if_pos q, if_pos (by omega)]
    show (v : Int) = ((if j = k then v else F j : Nat) : Int)
    rw [if_pos q.2]
  · rw [if_neg q]
    by_cases q2 : b = 74 ∧ j < n
    · rw [if_pos q2, if_pos q2]
      show (F j : Int) = ((if j = k then v else F j : Nat) : Int)
      rw [if_neg (by omega)]
    · rw [if_neg q2, if_neg q2]
theorem ctX11_laysPrices {d p : Nat} {N : Tn} (hd : 2 ≤ d) (hW : WFN N) (hp : p < 5) {τ : Sg} (hM : RowM τ 67 0 N) : Ct d MX11_laysPrices [rV 20 66, iV (p : Int)] τ (.inl []) (rP τ (fM N p (N 1)) (isF (lR N p (N 1)) (fM N p (N 1)))) := by
  have h8 := hW.1.1
  refine (eX11_laysPrices (d := 1) ?_).mono hd
  intro X Xr Xt hC hr
  refine bX11_laysPrices_0 hC ?_
  have hMr : ∀ n F, RowM (rP τ n F) 67 0 N := fun n F => RowM_cell hM (rP_cell (by decide) (by decide))
  have key : ∀ c, c ≤ N 1 → X 14 [rV 20 66, iV (p : Int), iV (c : Int), uV, uV, uV, uV, uV] [] (rP τ (fM N p c) (lR N p c)) := by
    refine loop_up (P := fun c => X 14 [rV 20 66, iV (p : Int), iV (c : Int), uV, uV, uV, uV, uV] [] (rP τ (fM N p c) (lR N p c))) ?_ ?_
    · refine bX11_laysPrices_14 hC ?_
      refine ⟨_, ctX11_coins (by decide) (hMr _ _), ?_⟩
      rw [if_neg (by omega)]
      have hm := fM_le hW hp h8
      obtain ⟨m, hmd⟩ : ∃ m, m = fM N p (N 1) := ⟨_, rfl⟩
      rw [← hmd] at hm hr ⊢
      have srtk : ∀ i, i ≤ m → 1 ≤ i → X 113 [rV 20 66, iV (p : Int), iV (i : Int), uV, uV, uV, uV, uV] [] (rP τ m (isF (lR N p (N 1)) i)) := by
        refine loop_up (P := fun i => 1 ≤ i → X 113 [rV 20 66, iV (p : Int), iV (i : Int), uV, uV, uV, uV, uV] [] (rP τ m (isF (lR N p (N 1)) i))) ?_ ?_
        · intro _
          refine bX11_laysPrices_113 hC ?_
          rw [rP_n, if_neg (by omega)]
          exact hr
        · intro i hi ih h1
          have ih := ih (by omega)
          rw [isF_s _ (show i ≠ 0 by omega)] at ih
          generalize isF (lR N p (N 1)) i = G at ih ⊢
          refine bX11_laysPrices_113 hC ?_
          rw [rP_n, if_pos (by omega), Int.toNat_natCast, rP_k hi]
          refine ⟨by omega, ?_⟩
          have inn : ∀ j (H : Nat → Nat), j ≤ i → inG H (G i) j = inG G (G i) i → X 131 [rV 20 66, iV (p : Int), iV (i : Int), lV (G i : Int), uV, iV (j : Int), uV, uV] [] (rP τ m H) := by
            intro j
            induction j with
            | zero =>
              intro H hj he
              refine bX11_laysPrices_131 hC ?_
              rw [if_neg (by omega), Int.toNat_natCast, rP_ud (by omega), w32_s (by omega)]
              have he : ud H 0 (G i) = inG G (G i) i := he
              rw [he]
              exact ⟨by omega, ih⟩
            | succ j ihj =>
              intro H hj he
              rw [inG_s] at he
              refine bX11_laysPrices_131 hC ?_
              have e1 : w32 (((j + 1 : Nat) : Int) - 1) = (j : Int) := by clear he ihj ih; unfold w32; omega
              have e2 : w32 (((j + 1 : Nat) : Int) + -1) = (j : Int) := by clear he ihj ih e1; unfold w32; omega
              rw [if_pos (by clear e1 e2; omega), e1, e2]
              clear e1 e2
              rw [Int.toNat_natCast, Int.toNat_natCast, rP_k (show j < m by omega)]
              refine ⟨by omega, ?_⟩
              by_cases q : G i < H j
              · rw [if_pos q] at he
                rw [if_pos (Int.ofNat_lt.mpr q), rP_ud (by omega)]
                exact ⟨by omega, by omega, ihj _ (by omega) he⟩
              · rw [if_neg q] at he
                rw [if_neg (fun z => q (Int.ofNat_lt.mp z)), rP_ud (by omega), w32_s (by omega), he]
                exact ⟨by omega, ih⟩
          exact inn i G (Nat.le_refl i) rfl
      have hm1 : 1 ≤ m := by rw [hmd]; exact fM_pos N p (N 1)
      exact srtk 1 hm1 (Nat.le_refl 1)
    · intro c hc ih
      have hm := fM_le hW hp (show c ≤ 8 by omega)
      have hm2 := fM_le hW hp (show c + 1 ≤ 8 by omega)
      have h0 := fM_pos N p c
      rw [fM_s] at hm2 ih
      have hq := hW.2.1 c hc
      have hh9 := hN_le hW hp (show c < 8 by omega)
      have hlo : ∀ k, k < fM N p c → lR N p (c + 1) k = lR N p c k := fun k hk => lR_lo N p c hk
      have hat : ∀ i j, j < fM N p c → lR N p (c + 1) (fM N p c * i + j) = lR N p c j * N (4 + c) ^ i := fun i j hj => lR_at N p c hj
      obtain ⟨g1, g2⟩ := lR_ok hW (p := p) c (by omega)
      rw [rP_congr (fun k hk => (hlo k hk).symm)]
      refine bX11_laysPrices_14 hC ?_
      refine ⟨_, ctX11_coins (by decide) (hMr _ _), ?_⟩
      rw [if_pos (by omega), rP_n]
      obtain ⟨m0, hm0⟩ : ∃ m0, m0 = fM N p c := ⟨_, rfl⟩
      obtain ⟨L, hL⟩ : ∃ L, L = lR N p (c + 1) := ⟨_, rfl⟩
      rw [← hm0] at hm hm2 ih h0 hlo hat g1 ⊢
      rw [← hL] at ih hlo hat ⊢
      have hwl : ∀ i, i ≤ hN N p c → wP N p c * N (4 + c) ^ i ≤ 760231058654565217 := fun i hi => Nat.le_trans (Nat.mul_le_mul_left _ (Nat.pow_le_pow_right (by omega) hi)) (wP_le hW hp (c := c + 1) hc)
      have hwc : 1 ≤ wP N p c := prodN_pos (fun i hi => Nat.pow_pos (by have := hW.2.1 i (by omega); omega))
      have key2 : ∀ i, i ≤ hN N p c → ∀ y : Nat, y = N (4 + c) ^ i → X 33 [rV 20 66, iV (p : Int), iV (c : Int), iV (m0 : Int), lV (y : Int), uV, iV (i : Int), uV] [] (rP τ (m0 * (i + 1)) L) := by
        refine loop_up (P := fun i => ∀ y : Nat, y = N (4 + c) ^ i → X 33 [rV 20 66, iV (p : Int), iV (c : Int), iV (m0 : Int), lV (y : Int), uV, iV (i : Int), uV] [] (rP τ (m0 * (i + 1)) L)) ?_ ?_
        · intro y hy
          refine bX11_laysPrices_33 hC ?_
          refine ⟨_, ctX11_of (by decide) hp (by omega) (hMr _ _), ?_⟩
          rw [if_neg (by omega), w32_s (by omega)]
          exact ih
        · intro i hi ihi y hy
          refine bX11_laysPrices_33 hC ?_
          refine ⟨_, ctX11_of (by decide) hp (by omega) (hMr _ _), ?_⟩
          rw [if_pos (by omega)]
          refine ⟨_, ctX11_prime (by decide) (by omega) (hMr _ _), ?_⟩
          have ey : y * N (4 + c) = N (4 + c) ^ (i + 1) := by rw [hy]; rfl
          have hw1 := hwl (i + 1) hi
          have hy1 : N (4 + c) ^ (i + 1) ≤ wP N p c * N (4 + c) ^ (i + 1) := Nat.le_mul_of_pos_left _ hwc
          have hbnd : m0 * (i + 1) + m0 ≤ 384 := by
            have e2 : m0 * (i + 2) ≤ m0 * (hN N p c + 1) := Nat.mul_le_mul_left _ (by omega)
            exact Nat.le_trans e2 hm2
          rw [← Int.natCast_mul, ey, w64_n (Nat.lt_of_le_of_lt (Nat.le_trans hy1 hw1) (by decide))]
          have inn : ∀ j, j ≤ m0 → X 58 [rV 20 66, iV (p : Int), iV (c : Int), iV (m0 : Int), lV ((N (4 + c) ^ (i + 1) : Nat) : Int), uV, iV (i : Int), iV (j : Int)] [] (rP τ (m0 * (i + 1) + j) L) := by
            refine loop_up (P := fun j => X 58 [rV 20 66, iV (p : Int), iV (c : Int), iV (m0 : Int), lV ((N (4 + c) ^ (i + 1) : Nat) : Int), uV, iV (i : Int), iV (j : Int)] [] (rP τ (m0 * (i + 1) + j) L)) ?_ ?_
            · refine bX11_laysPrices_58 hC ?_
              rw [if_neg (by omega), w32_s (by omega)]
              exact ihi _ rfl
            · intro j hj ihj
              refine bX11_laysPrices_58 hC ?_
              have hlt : j < m0 * (i + 1) + j := Nat.lt_add_of_pos_left (Nat.mul_pos h0 (by omega))
              have e3 : L j * N (4 + c) ^ (i + 1) = L (m0 * (i + 1) + j) := by rw [hat (i + 1) j hj, hlo j hj]
              have e4 : L (m0 * (i + 1) + j) < 9223372036854775808 := by
                rw [hat (i + 1) j hj]
                exact Nat.lt_of_le_of_lt (Nat.le_trans (Nat.mul_le_mul_right _ (g1 j hj).2) hw1) (by decide)
              rw [if_pos (by omega), rP_n, Int.toNat_natCast, Int.toNat_natCast, rP_k hlt, ← Int.natCast_mul, e3, w64_n e4, ups_cell (show 66 ≠ 74 by decide), rP_n, w32_s (show m0 * (i + 1) + j < 2147483647 by omega), rP_s, w32_s (show j < 2147483647 by omega)]
              exact ⟨by omega, by omega, ihj⟩
          exact inn 0 (Nat.zero_le _)
      have := key2 0 (Nat.zero_le _) 1 (by rw [Nat.pow_zero])
      rw [Nat.zero_add, Nat.mul_one] at this
      exact this
  have := key 0 (Nat.zero_le _)
  have e : rP τ (fM N p 0) (lR N p 0) = upS (upS τ 66 20 1) 74 0 1 := by
    have e1 : fM N p 0 = 1 := rfl
    rw [e1]
    unfold rP
    rw [ups_comm (show 66 ≠ 74 by decide)]
    show upS (stS τ 74 1 (fun j => ((lR N p 0 j : Nat) : Int))) 66 20 1 = upS (upS τ 74 0 1) 66 20 1
    congr 1
    funext b j
    unfold stS upS
    by_cases q : b = 74 ∧ j < 1
    · rw [if_pos q, if_pos (by omega)]; rfl
    · rw [if_neg q, if_neg (by omega)]
  rw [e] at this
  exact this
/-- both rows are one -/
def prS (N : Tn) (p : Nat) : Nat → Nat := fS N p (N 1)
theorem pr_eq {N : Tn} (hW : WFN N) {p : Nat} : ∀ k, k < fM N p (N 1) → isF (lR N p (N 1)) (fM N p (N 1)) k = prS N p k := by
  obtain ⟨f1, f2, f3⟩ := fS_ok hW (p := p) (N 1) (Nat.le_refl _)
  obtain ⟨l1, l2⟩ := lR_ok hW (p := p) (N 1) (Nat.le_refl _)
  obtain ⟨i1, i2, i3, i4⟩ := isF_ok (lR N p (N 1)) (fM N p (N 1))
  exact srt_eq i1 f1 (fun P => by rw [i3, l2]; exact (f3 P).symm)
theorem prS_ok {N : Tn} (hW : WFN N) {p : Nat} (hp : p < 5) : srt (prS N p) (fM N p (N 1)) ∧ (∀ k, k < fM N p (N 1) → 1 ≤ prS N p k ∧ prS N p k ≤ 760231058654565217) ∧ prS N p 0 = 1 := by
  obtain ⟨f1, f2, f3⟩ := fS_ok hW (p := p) (N 1) (Nat.le_refl _)
  have h0 := fM_pos N p (N 1)
  refine ⟨f1, fun k hk => ⟨(f2 k hk).1, Nat.le_trans (f2 k hk).2 (wP_le hW hp (Nat.le_refl _))⟩, ?_⟩
  have h1 := (f2 0 h0).1
  have h2 : fS N p (N 1) 0 ≤ 1 := by
    refine (cnt_iff (fM N p (N 1)) f1 0 h0).mpr ?_
    have := f3 (fun v => if v ≤ 1 then 1 else 0)
    have h3 := GP_one N p (N 1) (fun v => if v ≤ 1 then 1 else 0)
    have h3 : 1 ≤ GP N p (N 1) (fun v => if v ≤ 1 then 1 else 0) := h3
    have h4 : cnt (fS N p (N 1)) 1 (fM N p (N 1)) = GP N p (N 1) (fun v => if v ≤ 1 then 1 else 0) := this
    omega
  show fS N p (N 1) 0 = 1
  omega
