/-! PAIRS: witness, rounds -/
def wiGo (n : Nat) : Nat → Nat → Int
  | 0, _ => -1
  | f + 1, k => if k < n then (if k ^ (n - 1) % n = 1 then wiGo n f (k + 1) else (k : Int)) else -1
theorem wiGo_s (n f k : Nat) : wiGo n (f + 1) k = if k < n then (if k ^ (n - 1) % n = 1 then wiGo n f (k + 1) else (k : Int)) else -1 := rfl
theorem jt_witness {ω : Nat → Int} {σ : Sg} (hI : Inv ω σ) (x : Int) : Jt ω MX10_witness MX11_witness [iV x] iV cdI σ := by
  by_cases h : 2 ≤ x ∧ x ≤ 1000000000
  · obtain ⟨n, hn⟩ := z_nat (show 0 ≤ x by omega)
    subst hn
    have en : w32 ((n : Int) - 1) = ((n - 1 : Nat) : Int) := by unfold w32; omega
    refine Or.inl ⟨wiGo n 59 2, σ, ?_, ?_⟩
    · refine (eX10_witness (d := 4) ?_).mono (by decide)
      intro X Xr Xt hC hr
      refine bX10_witness_0 hC ?_
      refine Or.inl ⟨ctX10_needNumber (by decide) h, ?_⟩
      have key : ∀ f k : Nat, k + f = 61 → wiGo n f k = wiGo n 59 2 → 2 ≤ k → X 8 [rV 19 0, iV (n : Int), iV (k : Int)] [] σ := by
        intro f
        induction f with
        | zero =>
          intro k hk he _
          have hk : k = 61 := hk
          refine bX10_witness_8 hC ?_
          rw [if_pos (by omega)]
          rw [← (show (-1 : Int) = wiGo n 59 2 from he)] at hr
          exact hr
        | succ f ih =>
          intro k hk he h2
          refine bX10_witness_8 hC ?_
          rw [if_neg (by omega)]
          rw [wiGo_s n f k] at he
          by_cases a : k < n
          · rw [if_pos a] at he
            rw [if_pos (by omega), en]
            refine ⟨_, ctX3_power (by decide) (by omega) (by omega) (by omega), ?_⟩
            by_cases b : k ^ (n - 1) % n = 1
            · rw [if_pos b] at he
              rw [if_pos (by omega), w32_s (by omega)]
              exact ih (k + 1) (by omega) he (by omega)
            · rw [if_neg b] at he
              rw [if_neg (by omega)]
              rw [← he] at hr
              exact hr
          · rw [if_neg a] at he
            rw [if_neg (by omega)]
            rw [← he] at hr
            exact hr
      exact key 59 2 rfl rfl (by omega)
    · intro τ ha
      refine ⟨upS τ 66 5 0, ?_, ups_eq, Inv_fr hI (th_fr ha)⟩
      refine (eX11_witness (d := 4) ?_).mono (by decide)
      intro X Xr Xt hC hr
      refine bX11_witness_0 hC ?_
      refine ⟨_, ctX11_within (by decide), ?_⟩
      rw [decide_eq_true h, if_neg (by decide)]
      have key : ∀ f k : Nat, k + f = 61 → wiGo n f k = wiGo n 59 2 → 2 ≤ k → X 27 [rV 20 66, iV (n : Int), iV (k : Int)] [] (upS τ 66 5 0) := by
        intro f
        induction f with
        | zero =>
          intro k hk he _
          have hk : k = 61 := hk
          refine bX11_witness_27 hC ?_
          rw [if_pos (by omega)]
          rw [← (show (-1 : Int) = wiGo n 59 2 from he)] at hr
          exact hr
        | succ f ih =>
          intro k hk he h2
          refine bX11_witness_27 hC ?_
          rw [if_neg (by omega)]
          rw [wiGo_s n f k] at he
          by_cases a : k < n
          · rw [if_pos a] at he
            rw [if_pos (by omega), en]
            refine ⟨_, ctX11_powerBy (by decide) (by omega) (by omega) (by omega), ?_⟩
            by_cases b : k ^ (n - 1) % n = 1
            · rw [if_pos b] at he
              rw [if_pos (by omega), w32_s (by omega)]
              exact ih (k + 1) (by omega) he (by omega)
            · rw [if_neg b] at he
              rw [if_neg (by omega)]
              rw [← he] at hr
              exact hr
          · rw [if_neg a] at he
            rw [if_neg (by omega)]
            rw [← he] at hr
            exact hr
      exact key 59 2 rfl rfl (by omega)
  · refine Or.inr ⟨2, σ, by decide, ?_, ?_⟩
    · refine (eX10_witness (d := 4) ?_).mono (by decide)
      intro X Xr Xt hC hr
      refine bX10_witness_0 hC ?_
      exact Or.inr ⟨_, ctX10_needNumber_no (by decide) h, hr⟩
    · intro τ ha
      refine ⟨0, upS (upS τ 66 5 0) 66 5 1, ?_, ups_eq, Inv_fr hI ((th_fr ha).ups66 (by decide) (by decide) (by decide))⟩
      refine (eX11_witness (d := 4) ?_).mono (by decide)
      intro X Xr Xt hC hr
      refine bX11_witness_0 hC ?_
      refine ⟨_, ctX11_within (by decide), ?_⟩
      rw [decide_eq_false h, if_pos (by decide)]
      exact ⟨_, _, ctX11_fails (by decide), hr⟩
def rdA (n c x : Nat) : Nat := (x * x + c) % n
def rdGo (n c : Nat) (w : Int) : Nat → Nat → Nat → Nat → Int
  | 0, _, _, _ => -1
  | f + 1, i, x, y => if 1 < Nat.gcd n (Int.natAbs ((rdA n c x : Int) - (rdA n c (rdA n c y) : Int))) then (if w = 0 then (Nat.gcd n (Int.natAbs ((rdA n c x : Int) - (rdA n c (rdA n c y) : Int))) : Int) else (i : Int)) else rdGo n c w f (i + 1) (rdA n c x) (rdA n c (rdA n c y))
theorem rdGo_s (n c : Nat) (w : Int) (f i x y : Nat) : rdGo n c w (f + 1) i x y = if 1 < Nat.gcd n (Int.natAbs ((rdA n c x : Int) - (rdA n c (rdA n c y) : Int))) then (if w = 0 then (Nat.gcd n (Int.natAbs ((rdA n c x : Int) - (rdA n c (rdA n c y) : Int))) : Int) else (i : Int)) else rdGo n c w f (i + 1) (rdA n c x) (rdA n c (rdA n c y)) := rfl
theorem sq9 {x : Nat} (h : x ≤ 1000000000) : x * x ≤ 1000000000000000000 := Nat.le_trans (Nat.mul_le_mul h h) (by decide)
theorem rd_w {n c x : Nat} (hx : x ≤ 1000000000) (hc : c ≤ 99) : (w64 (w64 ((x : Int) * (x : Int)) + (c : Int))).tmod (n : Int) = ((rdA n c x : Nat) : Int) := by
  have := sq9 hx
  rw [← Int.natCast_mul, w64_n (by omega), ← Int.natCast_add, w64_n (by omega), tmod_nat]
  rfl
theorem rd_abs {a b : Nat} (ha : a ≤ 1000000000) (hb : b ≤ 1000000000) : absI (w64 ((a : Int) - (b : Int))) = ((Int.natAbs ((a : Int) - (b : Int)) : Nat) : Int) := by
  unfold absI w64
  split <;> omega
theorem jt_rounds {ω : Nat → Int} {σ : Sg} (hI : Inv ω σ) (x cc w : Int) : Jt ω MX10_rounds MX11_rounds [iV x, iV cc, iV w] iV cdI σ := by
  by_cases h : 2 ≤ x ∧ x ≤ 1000000000
  · by_cases k : 0 ≤ cc ∧ cc ≤ 99
    · by_cases g : 0 ≤ w ∧ w ≤ 1
      · obtain ⟨n, hn⟩ := z_nat (show 0 ≤ x by omega)
        obtain ⟨c, hc⟩ := z_nat k.1
        subst hn
        subst hc
        have hl : ∀ x, rdA n c x ≤ 1000000000 := fun x => by
          have : rdA n c x < n := Nat.mod_lt _ (by omega)
          omega
        refine Or.inl ⟨rdGo n c w 2000 1 2 2, σ, ?_, ?_⟩
        · refine (eX10_rounds (d := 4) ?_).mono (by decide)
          intro X Xr Xt hC hr
          refine bX10_rounds_0 hC ?_
          refine Or.inl ⟨ctX10_needNumber (by decide) h, ?_⟩
          rw [if_neg (by omega), if_neg (by omega)]
          refine Or.inl ⟨ctX10_needWhat (by decide) g, ?_⟩
          have key : ∀ f i : Nat, i + f = 2001 → ∀ x y : Nat, x ≤ 1000000000 → y ≤ 1000000000 → rdGo n c w f i x y = rdGo n c w 2000 1 2 2 → X 46 [rV 19 0, iV (n : Int), iV (c : Int), iV w, lV (x : Int), uV, lV (y : Int), uV, iV (i : Int), uV, uV] [] σ := by
            intro f
            induction f with
            | zero =>
              intro i hi x y hx hy he
              have hi : i = 2001 := hi
              refine bX10_rounds_46 hC ?_
              rw [if_pos (by omega)]
              rw [← (show (-1 : Int) = rdGo n c w 2000 1 2 2 from he)] at hr
              exact hr
            | succ f ih =>
              intro i hi x y hx hy he
              refine bX10_rounds_46 hC ?_
              rw [if_neg (by omega), rd_w hx (by omega), rd_w hy (by omega), rd_w (hl y) (by omega), rd_abs (hl x) (hl _)]
              refine ⟨by omega, by omega, by omega, _, ctX3_commonFactor (by decide) (by omega) (by have := hl x; have := hl (rdA n c y); omega), ?_⟩
              rw [rdGo_s n c w f i x y] at he
              have hgl : Nat.gcd n (Int.natAbs ((rdA n c x : Int) - (rdA n c (rdA n c y) : Int))) ≤ n := Nat.le_of_dvd (by omega) (Nat.gcd_dvd_left _ _)
              by_cases a : 1 < Nat.gcd n (Int.natAbs ((rdA n c x : Int) - (rdA n c (rdA n c y) : Int)))
              · rw [if_pos a] at he
                rw [if_pos (by omega)]
                by_cases b : w = 0
                · rw [if_pos b] at he ⊢
                  rw [← he] at hr
                  rw [w32_n (by omega)]
                  exact hr
                · rw [if_neg b] at he ⊢
                  rw [← he] at hr
                  exact hr
              · rw [if_neg a] at he
                rw [if_neg (by omega), w32_s (by omega)]
                exact ih (i + 1) (by omega) _ _ (hl _) (hl _) he
          exact key 2000 1 rfl 2 2 (by decide) (by decide) rfl
        · intro τ ha
          refine ⟨upS τ 66 5 0, ?_, ups_eq, Inv_fr hI (th_fr ha)⟩
          refine (eX11_rounds (d := 4) ?_).mono (by decide)
          intro X Xr Xt hC hr
          refine bX11_rounds_0 hC ?_
          refine ⟨_, ctX11_within (by decide), ?_⟩
          rw [decide_eq_true h, if_neg (by decide)]
          refine ⟨_, ctX11_within (by decide), ?_⟩
          rw [decide_eq_true k, if_neg (by decide)]
          refine ⟨_, ctX11_within (by decide), ?_⟩
          rw [decide_eq_true g, if_neg (by decide), ups_eq, if_neg (by decide)]
          have key : ∀ f i : Nat, i + f = 2001 → ∀ x y : Nat, x ≤ 1000000000 → y ≤ 1000000000 → rdGo n c w f i x y = rdGo n c w 2000 1 2 2 → X 67 [rV 20 66, iV (n : Int), iV (c : Int), iV w, lV (x : Int), uV, lV (y : Int), uV, iV (i : Int), uV, uV] [] (upS τ 66 5 0) := by
            intro f
            induction f with
            | zero =>
              intro i hi x y hx hy he
              have hi : i = 2001 := hi
              refine bX11_rounds_67 hC ?_
              rw [if_pos (by omega)]
              rw [← (show (-1 : Int) = rdGo n c w 2000 1 2 2 from he)] at hr
              exact hr
            | succ f ih =>
              intro i hi x y hx hy he
              refine bX11_rounds_67 hC ?_
              rw [if_neg (by omega), rd_w hx (by omega), rd_w hy (by omega), rd_w (hl y) (by omega), rd_abs (hl x) (hl _)]
              refine ⟨by omega, by omega, by omega, _, ctX11_shared (by decide), ?_⟩
              rw [rdGo_s n c w f i x y] at he
              have hgl : Nat.gcd n (Int.natAbs ((rdA n c x : Int) - (rdA n c (rdA n c y) : Int))) ≤ n := Nat.le_of_dvd (by omega) (Nat.gcd_dvd_left _ _)
              by_cases a : 1 < Nat.gcd n (Int.natAbs ((rdA n c x : Int) - (rdA n c (rdA n c y) : Int)))
              · rw [if_pos a] at he
                rw [if_pos (by omega)]
                by_cases b : w = 0
                · rw [if_pos b] at he ⊢
                  rw [← he] at hr
                  rw [w32_n (by omega)]
                  exact hr
                · rw [if_neg b] at he ⊢
                  rw [← he] at hr
                  exact hr
              · rw [if_neg a] at he
                rw [if_neg (by omega), w32_s (by omega)]
                exact ih (i + 1) (by omega) _ _ (hl _) (hl _) he
          exact key 2000 1 rfl 2 2 (by decide) (by decide) rfl
      · refine Or.inr ⟨2, σ, by decide, ?_, ?_⟩
        · refine (eX10_rounds (d := 4) ?_).mono (by decide)
          intro X Xr Xt hC hr
          refine bX10_rounds_0 hC ?_
          refine Or.inl ⟨ctX10_needNumber (by decide) h, ?_⟩
          rw [if_neg (by omega), if_neg (by omega)]
          exact Or.inr ⟨_, ctX10_needWhat_no (by decide) g, hr⟩
        · intro τ ha
          refine ⟨0, upS τ 66 5 1, ?_, ups_eq, Inv_fr hI (th_fr ha)⟩
          refine (eX11_rounds (d := 4) ?_).mono (by decide)
          intro X Xr Xt hC hr
          refine bX11_rounds_0 hC ?_
          refine ⟨_, ctX11_within (by decide), ?_⟩
          rw [decide_eq_true h, if_neg (by decide)]
          refine ⟨_, ctX11_within (by decide), ?_⟩
          rw [decide_eq_true k, if_neg (by decide)]
          refine ⟨_, ctX11_within (by decide), ?_⟩
          rw [decide_eq_false g, if_pos (by decide), ups_eq, if_pos (by decide)]
          exact hr
    · refine Or.inr ⟨2, σ, by decide, ?_, ?_⟩
      · refine (eX10_rounds (d := 4) ?_).mono (by decide)
        intro X Xr Xt hC hr
        refine bX10_rounds_0 hC ?_
        refine Or.inl ⟨ctX10_needNumber (by decide) h, ?_⟩
        by_cases c0 : cc < 0
        · rw [if_pos c0]; exact hr
        · rw [if_neg c0, if_pos (by omega)]; exact hr
      · intro τ ha
        refine ⟨0, upS τ 66 5 1, ?_, ups_eq, Inv_fr hI (th_fr ha)⟩
        refine (eX11_rounds (d := 4) ?_).mono (by decide)
        intro X Xr Xt hC hr
        refine bX11_rounds_0 hC ?_
        refine ⟨_, ctX11_within (by decide), ?_⟩
        rw [decide_eq_true h, if_neg (by decide)]
        refine ⟨_, ctX11_within (by decide), ?_⟩
        rw [decide_eq_false k, if_pos (by decide), ups_eq, if_pos (by decide)]
        exact hr
  · refine Or.inr ⟨2, σ, by decide, ?_, ?_⟩
    · refine (eX10_rounds (d := 4) ?_).mono (by decide)
      intro X Xr Xt hC hr
      refine bX10_rounds_0 hC ?_
      exact Or.inr ⟨_, ctX10_needNumber_no (by decide) h, hr⟩
    · intro τ ha
      refine ⟨0, upS τ 66 5 1, ?_, ups_eq, Inv_fr hI (th_fr ha)⟩
      refine (eX11_rounds (d := 4) ?_).mono (by decide)
      intro X Xr Xt hC hr
      refine bX11_rounds_0 hC ?_
      refine ⟨_, ctX11_within (by decide), ?_⟩
      rw [decide_eq_false h, if_pos (by decide), ups_eq, if_pos (by decide)]
      exact hr
