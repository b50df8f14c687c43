/-! PAIRS: stolen, gainer, swap -/
def bitsN (f : Nat → Bool) : Nat → Nat
  | 0 => 0
  | k + 1 => bitsN f k + (if f k = true then 2 ^ k else 0)
theorem bitsN_s (f : Nat → Bool) (k : Nat) : bitsN f (k + 1) = bitsN f k + (if f k = true then 2 ^ k else 0) := rfl
theorem bitsN_lt (f : Nat → Bool) (k : Nat) : bitsN f k < 2 ^ k := by
  induction k with
  | zero => exact Nat.one_pos
  | succ k ih =>
    rw [bitsN_s, Nat.pow_succ]
    by_cases h : f k = true
    · rw [if_pos h]; omega
    · rw [if_neg h]; omega
theorem ior_0 {x : Nat} (h : x < 2147483648) : iorI (x : Int) 0 = (x : Int) := by
  have := ior_nat (a := x) (b := 0) h (by decide)
  rw [Nat.or_zero] at this
  exact this
theorem ishl_1 {k : Nat} (h : k < 31) : ishlI 1 (k : Int) = ((2 ^ k : Nat) : Int) := by
  have q := ishl_nat (a := 1) (k := k) (by omega) (by rw [Nat.one_mul]; exact Nat.lt_of_lt_of_le (Nat.pow_lt_pow_right (by decide) h) (by decide))
  rw [Nat.one_mul] at q
  exact q
theorem ior_bit {f : Nat → Bool} {k : Nat} (hk : k < 8) (h : f k = true) : iorI (bitsN f k : Int) (ishlI 1 (k : Int)) = (bitsN f (k + 1) : Int) := by
  have hl := bitsN_lt f k
  have hp8 := pw8 (show k ≤ 8 by omega)
  rw [ishl_1 (by omega), ior_nat (by omega) (by omega), or_two_pow hl, bitsN_s, if_pos h]
def snB (N : Tn) (p b r : Nat) (c : Nat) : Bool := decide (0 < hN N p c) && decide (wN N p / N (4 + c) % b = r)
def cdNII (E : Nat) : Int := if E = 1 then 1 else if E = 2 then 2 else 0
theorem jt_stolen {ω : Nat → Int} {σ : Sg} (hI : Inv ω σ) (x y z : Int) (hy : in64 y) (hz : in64 z) : Jt ω MX10_stolen MX11_stolen [iV x, lV y, lV z] iV cdNI σ := by
  obtain ⟨N, hQ⟩ := hI.1
  have hW := hQ.2.2
  have h5 := hW.1.2.1
  have h8 := hW.1.1
  by_cases h : 0 ≤ x ∧ x < N 2
  · by_cases g : 2 ≤ y ∧ y ≤ 1000000000
    · have ey : w64 (y - 1) = y - 1 := by unfold w64; omega
      by_cases g2 : 0 ≤ z ∧ z ≤ y - 1
      · obtain ⟨p, hp⟩ := z_nat h.1
        subst hp
        obtain ⟨b, hb⟩ := z_nat (show 0 ≤ y by omega)
        subst hb
        obtain ⟨r, hr⟩ := z_nat g2.1
        subst hr
        have hp5 : p < 5 := by omega
        have hwp := wN_le hW hp5
        refine Or.inl ⟨(bitsN (snB N p b r) (N 1) : Int), σ, ?_, ?_⟩
        · refine (eX10_stolen (d := 3) ?_).mono (by decide)
          intro X Xr Xt hC hr
          refine bX10_stolen_0 hC ?_
          refine Or.inl ⟨ctX10_needPerson (by decide) hQ.1 h, ?_⟩
          rw [if_neg (by omega), if_neg (by omega), if_neg (by omega), if_pos (by omega)]
          refine ⟨_, ctX8_worthOf (by decide) hW hp5 hQ.1, ?_⟩
          have key : ∀ k, k ≤ N 1 → ∀ s : Nat, s = bitsN (snB N p b r) k → X 62 [rV 19 0, iV (p : Int), lV (b : Int), uV, lV (r : Int), uV, lV (wN N p : Int), uV, iV (s : Int), iV (k : Int)] [] σ := by
            refine loop_up (P := fun k => ∀ s : Nat, s = bitsN (snB N p b r) k → X 62 [rV 19 0, iV (p : Int), lV (b : Int), uV, lV (r : Int), uV, lV (wN N p : Int), uV, iV (s : Int), iV (k : Int)] [] σ) ?_ ?_
            · intro s hs
              refine bX10_stolen_62 hC ?_
              rw [hQ.1.1 1 (by omega), if_neg (by omega), hs]
              exact hr
            · intro k hk ih s hs
              refine bX10_stolen_62 hC ?_
              rw [hQ.1.1 1 (by omega), if_pos (by omega)]
              refine ⟨_, ctX8_held (by decide) hp5 (by omega) hQ.1, ?_⟩
              rw [w32_s (by omega)]
              have hf : bitsN (snB N p b r) (k + 1) = bitsN (snB N p b r) k + (if snB N p b r k = true then 2 ^ k else 0) := rfl
              by_cases a : 0 < hN N p k
              · rw [if_pos (by omega)]
                have hq := hW.2.1 k hk
                have hdl := Nat.div_le_self (wN N p) (N (4 + k))
                refine ⟨_, ctX8_primeOf (by decide) hW hk hQ.1, by omega, by omega, ?_⟩
                rw [tdiv_nat, w64_n (Nat.lt_of_le_of_lt hdl (by omega)), tmod_nat]
                by_cases c : wN N p / N (4 + k) % b = r
                · have hsn : snB N p b r k = true := by unfold snB; rw [decide_eq_true a, decide_eq_true c]; rfl
                  rw [if_pos (by rw [c]), hs, ior_bit (by omega) hsn]
                  exact ih _ rfl
                · have hsn : ¬ snB N p b r k = true := by unfold snB; rw [decide_eq_false c, Bool.and_false]; decide
                  rw [if_neg hsn] at hf
                  rw [if_neg (by omega)]
                  exact ih _ (by omega)
              · have hsn : ¬ snB N p b r k = true := by unfold snB; rw [decide_eq_false a, Bool.false_and]; decide
                rw [if_neg hsn] at hf
                rw [if_neg (by omega)]
                exact ih _ (by omega)
          exact key 0 (Nat.zero_le _) 0 rfl
        · intro τ ha
          have hM0 := (InvN_ag hQ ha).2.1
          have hM : ∀ v, RowM (upS τ 66 5 v) 67 0 N := fun v => RowM_ups hM0 (by decide)
          refine ⟨upS τ 66 5 0, ?_, ups_eq, Inv_fr hI (th_fr ha)⟩
          refine (eX11_stolen (d := 3) ?_).mono (by decide)
          intro X Xr Xt hC hr
          refine bX11_stolen_0 hC ?_
          refine ⟨_, ctX11_isP (by decide) h5 hM0 h, ?_⟩
          rw [if_neg (by decide)]
          refine ⟨_, ctX11_wi (by decide) g, ?_⟩
          rw [if_neg (by decide), ey]
          refine ⟨_, ctX11_wi (by decide) g2, ?_⟩
          rw [if_neg (by decide), ups_eq, if_neg (by decide)]
          have key : ∀ k, k ≤ N 1 → ∀ s : Nat, s = bitsN (snB N p b r) k → X 62 [rV 20 66, iV (p : Int), lV (b : Int), uV, lV (r : Int), uV, iV (s : Int), iV (k : Int)] [] (upS τ 66 5 0) := by
            refine loop_up (P := fun k => ∀ s : Nat, s = bitsN (snB N p b r) k → X 62 [rV 20 66, iV (p : Int), lV (b : Int), uV, lV (r : Int), uV, iV (s : Int), iV (k : Int)] [] (upS τ 66 5 0)) ?_ ?_
            · intro s hs
              refine bX11_stolen_62 hC ?_
              refine ⟨_, ctX11_coins (by decide) (hM 0), ?_⟩
              rw [if_neg (by omega), hs]
              exact hr
            · intro k hk ih s hs
              refine bX11_stolen_62 hC ?_
              refine ⟨_, ctX11_coins (by decide) (hM 0), ?_⟩
              rw [if_pos (by omega)]
              refine ⟨_, ctX11_of (by decide) hp5 (by omega) (hM 0), ?_⟩
              rw [w32_s (by omega)]
              have hf : bitsN (snB N p b r) (k + 1) = bitsN (snB N p b r) k + (if snB N p b r k = true then 2 ^ k else 0) := rfl
              have hl := bitsN_lt (snB N p b r) k
              have hp8 := pw8 (show k ≤ 8 by omega)
              rw [ior_0 (by omega)]
              by_cases a : 0 < hN N p k
              · rw [if_pos (by omega)]
                have hq := hW.2.1 k hk
                have hdl := Nat.div_le_self (wN N p) (N (4 + k))
                refine ⟨_, ctX11_worthOf (by decide) hp5 hW (hM 0), _, ctX11_prime (by decide) (by omega) (hM 0), by omega, by omega, ?_⟩
                rw [tdiv_nat, w64_n (Nat.lt_of_le_of_lt hdl (by omega)), tmod_nat]
                by_cases c : wN N p / N (4 + k) % b = r
                · have hsn : snB N p b r k = true := by unfold snB; rw [decide_eq_true a, decide_eq_true c]; rfl
                  rw [if_pos (by rw [c]), hs, ior_bit (by omega) hsn]
                  exact ih _ rfl
                · have hsn : ¬ snB N p b r k = true := by unfold snB; rw [decide_eq_false c, Bool.and_false]; decide
                  rw [if_neg hsn] at hf
                  rw [if_neg (by omega)]
                  exact ih _ (by omega)
              · have hsn : ¬ snB N p b r k = true := by unfold snB; rw [decide_eq_false a, Bool.false_and]; decide
                rw [if_neg hsn] at hf
                rw [if_neg (by omega)]
                exact ih _ (by omega)
          exact key 0 (Nat.zero_le _) 0 rfl
      · refine Or.inr ⟨2, σ, by decide, ?_, ?_⟩
        · refine (eX10_stolen (d := 3) ?_).mono (by decide)
          intro X Xr Xt hC hr
          refine bX10_stolen_0 hC ?_
          refine Or.inl ⟨ctX10_needPerson (by decide) hQ.1 h, ?_⟩
          rw [if_neg (by omega), if_neg (by omega)]
          by_cases c : z < 0
          · rw [if_pos c]; exact hr
          · rw [if_neg c, if_neg (by omega)]; exact hr
        · intro τ ha
          have hM0 := (InvN_ag hQ ha).2.1
          have hM : ∀ v, RowM (upS τ 66 5 v) 67 0 N := fun v => RowM_ups hM0 (by decide)
          refine ⟨0, upS τ 66 5 2, ?_, ups_eq, Inv_fr hI (th_fr ha)⟩
          refine (eX11_stolen (d := 3) ?_).mono (by decide)
          intro X Xr Xt hC hr
          refine bX11_stolen_0 hC ?_
          refine ⟨_, ctX11_isP (by decide) h5 hM0 h, ?_⟩
          rw [if_neg (by decide)]
          refine ⟨_, ctX11_wi (by decide) g, ?_⟩
          rw [if_neg (by decide), ey]
          refine ⟨_, ctX11_wi_no (by decide) g2, ?_⟩
          rw [if_pos (by decide), ups_eq, if_pos (by decide)]
          exact hr
    · refine Or.inr ⟨2, σ, by decide, ?_, ?_⟩
      · refine (eX10_stolen (d := 3) ?_).mono (by decide)
        intro X Xr Xt hC hr
        refine bX10_stolen_0 hC ?_
        refine Or.inl ⟨ctX10_needPerson (by decide) hQ.1 h, ?_⟩
        by_cases c : y < 2
        · rw [if_pos c]; exact hr
        · rw [if_neg c, if_pos (by omega)]; exact hr
      · intro τ ha
        have hM0 := (InvN_ag hQ ha).2.1
        have hM : ∀ v, RowM (upS τ 66 5 v) 67 0 N := fun v => RowM_ups hM0 (by decide)
        refine ⟨0, upS τ 66 5 2, ?_, ups_eq, Inv_fr hI (th_fr ha)⟩
        refine (eX11_stolen (d := 3) ?_).mono (by decide)
        intro X Xr Xt hC hr
        refine bX11_stolen_0 hC ?_
        refine ⟨_, ctX11_isP (by decide) h5 hM0 h, ?_⟩
        rw [if_neg (by decide)]
        refine ⟨_, ctX11_wi_no (by decide) g, ?_⟩
        rw [if_pos (by decide), ups_eq, if_pos (by decide)]
        exact hr
  · refine Or.inr ⟨1, σ, by decide, ?_, ?_⟩
    · refine (eX10_stolen (d := 3) ?_).mono (by decide)
      intro X Xr Xt hC hr
      refine bX10_stolen_0 hC ?_
      exact Or.inr ⟨_, ctX10_needPerson_no (by decide) hQ.1 h, hr⟩
    · intro τ ha
      have hM0 := (InvN_ag hQ ha).2.1
      have hM : ∀ v, RowM (upS τ 66 5 v) 67 0 N := fun v => RowM_ups hM0 (by decide)
      refine ⟨0, upS τ 66 5 1, ?_, ups_eq, Inv_fr hI (th_fr ha)⟩
      refine (eX11_stolen (d := 3) ?_).mono (by decide)
      intro X Xr Xt hC hr
      refine bX11_stolen_0 hC ?_
      refine ⟨_, ctX11_isP_no (by decide) h5 hM0 h, ?_⟩
      rw [if_pos (by decide), ups_eq, if_pos (by decide)]
      exact hr
/-- the best change among the first k -/
def gnN (N : Tn) : Nat → Nat
  | 0 => 0
  | k + 1 => if vN N (gnN N k) 1 * vN N k 0 < vN N k 1 * vN N (gnN N k) 0 then k else gnN N k
theorem gnN_s (N : Tn) (k : Nat) : gnN N (k + 1) = if vN N (gnN N k) 1 * vN N k 0 < vN N k 1 * vN N (gnN N k) 0 then k else gnN N k := rfl
theorem gnN_lt (N : Tn) : ∀ k, gnN N (k + 1) ≤ k := by
  intro k
  induction k with
  | zero => rw [gnN_s]; split <;> exact Nat.le_refl _
  | succ k ih => rw [gnN_s]; split <;> omega
theorem vN_le {N : Tn} (hW : WFN N) {k s : Nat} (hk : k < 6) (hs : s < 2) : vN N k s ≤ 912673 := vN_part hW hk hs (Nat.le_refl _)
theorem vv_lt {a b : Nat} (ha : a ≤ 912673) (hb : b ≤ 912673) : a * b < 9223372036854775808 := Nat.lt_of_le_of_lt (Nat.mul_le_mul ha hb) (by decide)
theorem jn_gainer {ω : Nat → Int} {σ : Sg} (hI : Inv ω σ) : Jn ω MX10_gainer MX11_gainer [] iV σ := by
  obtain ⟨N, hQ⟩ := hI.1
  have hW := hQ.2.2
  have h5 := hW.1.2.1
  have h8 := hW.1.1
  have h6 := hW.1.2.2.1
  have hf : Fr σ (upS σ 66 5 0) := (Fr.refl σ).ups66 (by decide) (by decide) (by decide)
  have hM : RowM (upS σ 66 5 0) 67 0 N := RowM_ups hQ.2.1 (by decide)
  have stp : ∀ b k : Nat, b < 6 → k < 6 → w64 ((vN N b 1 : Int) * (vN N k 0 : Int)) = ((vN N b 1 * vN N k 0 : Nat) : Int) := by
    intro b k hb hk
    rw [← Int.natCast_mul, w64_n (vv_lt (vN_le hW hb (show 1 < 2 by decide)) (vN_le hW hk (show 0 < 2 by decide)))]
  obtain ⟨V, hV⟩ : ∃ V : Int, V = if N 3 = 0 then -1 else (gnN N (N 3) : Int) := ⟨_, rfl⟩
  refine ⟨V, σ, ?_, upS σ 66 5 0, ?_, Inv_fr hI hf⟩
  · refine (eX10_gainer (d := 4) ?_).mono (by decide)
    intro X Xr Xt hC hr
    refine bX10_gainer_0 hC ?_
    have key : ∀ k, k ≤ N 3 → 1 ≤ k → ∀ b : Nat, b = gnN N k → X 18 [rV 19 0, iV (b : Int), iV (k : Int), uV, uV, uV, uV] [] σ := by
      refine loop_up (P := fun k => 1 ≤ k → ∀ b : Nat, b = gnN N k → X 18 [rV 19 0, iV (b : Int), iV (k : Int), uV, uV, uV, uV] [] σ) ?_ ?_
      · intro h1 b hb
        refine bX10_gainer_18 hC ?_
        rw [hQ.1.1 3 (by omega), if_neg (by omega)]
        rw [if_neg (by omega)] at hV
        rw [hV, ← hb] at hr
        exact hr
      · intro k hk ih h1 b hb
        refine bX10_gainer_18 hC ?_
        rw [hQ.1.1 3 (by omega), if_pos (by omega)]
        have hb6 : b < 6 := by
          have := gnN_lt N (k - 1)
          rw [show k - 1 + 1 = k by omega] at this
          omega
        have hk6 : k < 6 := by omega
        refine ⟨_, ctX8_sideWorth (s := 1) (by decide) hW hk6 (by decide) hQ.1, _, ctX8_sideWorth (s := 0) (by decide) hW hb6 (by decide) hQ.1, _, ctX8_sideWorth (s := 1) (by decide) hW hb6 (by decide) hQ.1, _, ctX8_sideWorth (s := 0) (by decide) hW hk6 (by decide) hQ.1, ?_⟩
        rw [w32_s (by omega)]
        rw [stp b k hb6 hk6, stp k b hk6 hb6]
        by_cases c : vN N b 1 * vN N k 0 < vN N k 1 * vN N b 0
        · rw [if_pos (Int.ofNat_lt.mpr c)]
          exact ih (by omega) k (by rw [gnN_s, ← hb, if_pos c])
        · rw [if_neg (fun q => c (Int.ofNat_lt.mp q))]
          exact ih (by omega) b (by rw [gnN_s, ← hb, if_neg c])
    rw [hQ.1.1 3 (by omega)]
    by_cases z : N 3 = 0
    · rw [if_neg (by omega)]
      refine bX10_gainer_18 hC ?_
      rw [hQ.1.1 3 (by omega), if_neg (by omega)]
      rw [if_pos z] at hV
      rw [hV] at hr
      exact hr
    · rw [if_pos (by omega)]
      have hg : gnN N 1 = 0 := Nat.le_zero.mp (gnN_lt N 0)
      exact key 1 (by omega) (by omega) 0 hg.symm
  · refine (eX11_gainer (d := 4) ?_).mono (by decide)
    intro X Xr Xt hC hr
    refine bX11_gainer_0 hC ?_
    have key : ∀ k, k ≤ N 3 → 1 ≤ k → ∀ b : Nat, b = gnN N k → X 9 [rV 20 66, iV (b : Int), iV (k : Int)] [] (upS σ 66 5 0) := by
      refine loop_up (P := fun k => 1 ≤ k → ∀ b : Nat, b = gnN N k → X 9 [rV 20 66, iV (b : Int), iV (k : Int)] [] (upS σ 66 5 0)) ?_ ?_
      · intro h1 b hb
        refine bX11_gainer_9 hC ?_
        rw [rwm0 hM (by omega), if_neg (by omega)]
        rw [if_neg (by omega)] at hV
        rw [hV, ← hb] at hr
        exact hr
      · intro k hk ih h1 b hb
        refine bX11_gainer_9 hC ?_
        rw [rwm0 hM (by omega), if_pos (by omega), if_neg (by omega)]
        have hb6 : b < 6 := by
          have := gnN_lt N (k - 1)
          rw [show k - 1 + 1 = k by omega] at this
          omega
        have hk6 : k < 6 := by omega
        refine ⟨_, ctX11_sideOf (s := 1) (by decide) hk6 (by decide) hW hM, _, ctX11_sideOf (s := 0) (by decide) hb6 (by decide) hW hM, _, ctX11_sideOf (s := 1) (by decide) hb6 (by decide) hW hM, _, ctX11_sideOf (s := 0) (by decide) hk6 (by decide) hW hM, ?_⟩
        rw [w32_s (by omega)]
        rw [stp b k hb6 hk6, stp k b hk6 hb6]
        by_cases c : vN N b 1 * vN N k 0 < vN N k 1 * vN N b 0
        · rw [if_pos (Int.ofNat_lt.mpr c)]
          exact ih (by omega) k (by rw [gnN_s, ← hb, if_pos c])
        · rw [if_neg (fun q => c (Int.ofNat_lt.mp q))]
          exact ih (by omega) b (by rw [gnN_s, ← hb, if_neg c])
    refine bX11_gainer_9 hC ?_
    rw [rwm0 hM (by omega)]
    by_cases z : N 3 = 0
    · rw [if_neg (by omega)]
      rw [if_pos z] at hV
      rw [hV] at hr
      exact hr
    · rw [if_pos (by omega), if_pos rfl]
      have hg : gnN N 1 = 0 := Nat.le_zero.mp (gnN_lt N 0)
      exact key 1 (by omega) (by omega) 0 hg.symm
/-! swap -/
abbrev S3 : Type := Int × Int × Int
def dfN (N : Tn) (p q c d : Nat) : Int := absI (w64 (w64 (w64 ((wN N p : Int).tdiv (N (4 + c) : Int)) * (N (4 + d) : Int)) - w64 (w64 ((wN N q : Int).tdiv (N (4 + d) : Int)) * (N (4 + c) : Int))))
def swS (N : Tn) (p q c d : Nat) (s : S3) : S3 := if c = d then s else if hN N p c = 0 then s else if hN N q d = 0 then s else if s.1 = -1 then ((c : Int), (d : Int), dfN N p q c d) else if dfN N p q c d < s.2.2 then ((c : Int), (d : Int), dfN N p q c d) else s
def swI (N : Tn) (p q c : Nat) (s : S3) : Nat → S3
  | 0 => s
  | d + 1 => swS N p q c d (swI N p q c s d)
def swO (N : Tn) (p q : Nat) : Nat → S3
  | 0 => (-1, -1, 0)
  | c + 1 => swI N p q c (swO N p q c) (N 1)
def okW (n : Nat) (s : S3) : Prop := s.1 = -1 ∨ ((0 ≤ s.1 ∧ s.1 < n) ∧ (0 ≤ s.2.1 ∧ s.2.1 < n))
theorem swS_ok {N : Tn} {p q c d n : Nat} {s : S3} (h : okW n s) (hc : c < n) (hd : d < n) : okW n (swS N p q c d s) := by
  have hn : okW n ((c : Int), (d : Int), dfN N p q c d) := Or.inr ⟨⟨Int.natCast_nonneg c, Int.ofNat_lt.mpr hc⟩, Int.natCast_nonneg d, Int.ofNat_lt.mpr hd⟩
  unfold swS
  split
  · exact h
  split
  · exact h
  split
  · exact h
  split
  · exact hn
  split
  · exact hn
  · exact h
theorem swI_ok {N : Tn} {p q c n : Nat} {s : S3} (h : okW n s) (hc : c < n) : ∀ d, d ≤ n → okW n (swI N p q c s d) := by
  intro d
  induction d with
  | zero => intro _; exact h
  | succ d ih => intro hd; exact swS_ok (ih (by omega)) hc (by omega)
theorem swO_ok {N : Tn} {p q : Nat} : ∀ c, c ≤ N 1 → okW (N 1) (swO N p q c) := by
  intro c
  induction c with
  | zero => intro _; exact Or.inl rfl
  | succ c ih => intro hc; exact swI_ok (ih (by omega)) (by omega) _ (Nat.le_refl _)
def pzN (N : Tn) (z : Int) : Int := if z = -1 then -1 else (N (4 + z.toNat) : Int)
def swV (N : Tn) (w : Int) (s : S3) : Int := if s.1 = -1 then -1 else if w = 2 then s.2.2 else if w = 0 then pzN N s.1 else pzN N s.2.1
theorem pzN_n {N : Tn} {z : Int} (h : 0 ≤ z) : pzN N z = (N (4 + z.toNat) : Int) := if_neg (by omega)
theorem jt_swap {ω : Nat → Int} {σ : Sg} (hI : Inv ω σ) (x y w : Int) : Jt ω MX10_swap MX11_swap [iV x, iV y, iV w] lV cdNI σ := by
  obtain ⟨N, hQ⟩ := hI.1
  have hW := hQ.2.2
  have h5 := hW.1.2.1
  have h8 := hW.1.1
  by_cases h : (0 ≤ x ∧ x < N 2) ∧ (0 ≤ y ∧ y < N 2)
  · obtain ⟨h, g⟩ := h
    by_cases e : x = y
    · refine Or.inr ⟨2, σ, by decide, ?_, ?_⟩
      · refine (eX10_swap (d := 5) ?_).mono (by decide)
        intro X Xr Xt hC hr
        refine bX10_swap_0 hC ?_
        exact Or.inr ⟨_, ctX10_needTwo_2 (by decide) hQ.1 h g e, hr⟩
      · intro τ ha
        have hM0 := (InvN_ag hQ ha).2.1
        have hM : ∀ v, RowM (upS τ 66 5 v) 67 0 N := fun v => RowM_ups hM0 (by decide)
        refine ⟨0, upS τ 66 5 2, ?_, ups_eq, Inv_fr hI (th_fr ha)⟩
        refine (eX11_swap (d := 5) ?_).mono (by decide)
        intro X Xr Xt hC hr
        refine bX11_swap_0 hC ?_
        refine ⟨_, ctX11_isP (by decide) h5 hM0 h, ?_⟩
        rw [if_neg (by decide)]
        refine ⟨_, ctX11_isP (by decide) h5 hM0 g, ?_⟩
        rw [if_neg (by decide), if_pos e, ups_eq, if_pos (by decide)]
        exact hr
    · by_cases hw : 0 ≤ w ∧ w ≤ 2
      · obtain ⟨p, hp⟩ := z_nat h.1
        subst hp
        obtain ⟨q, hq⟩ := z_nat g.1
        subst hq
        have hp5 : p < 5 := by omega
        have hq5 : q < 5 := by omega
        have hrV : ∀ s : S3, s = swO N p q (N 1) → okW (N 1) s := fun s hs => by rw [hs]; exact swO_ok _ (Nat.le_refl _)
        refine Or.inl ⟨swV N w (swO N p q (N 1)), σ, ?_, ?_⟩
        · refine (eX10_swap (d := 5) ?_).mono (by decide)
          intro X Xr Xt hC hr
          refine bX10_swap_0 hC ?_
          refine Or.inl ⟨ctX10_needTwo (by decide) hQ.1 h g e, Or.inl ⟨ctX10_needWhat (by decide) hw, ?_⟩⟩
          have key : ∀ c, c ≤ N 1 → ∀ s : S3, s = swO N p q c → X 24 [rV 19 0, iV (p : Int), iV (q : Int), iV w, iV s.1, iV s.2.1, lV s.2.2, uV, iV (c : Int), uV, uV, uV] [] σ := by
            refine loop_up (P := fun c => ∀ s : S3, s = swO N p q c → X 24 [rV 19 0, iV (p : Int), iV (q : Int), iV w, iV s.1, iV s.2.1, lV s.2.2, uV, iV (c : Int), uV, uV, uV] [] σ) ?_ ?_
            · intro s hs
              refine bX10_swap_24 hC ?_
              have hok := hrV s hs
              rw [← hs] at hr
              unfold swV at hr
              rw [hQ.1.1 1 (by omega), if_neg (by omega)]
              by_cases a : s.1 = -1
              · rw [if_pos a] at hr ⊢; exact hr
              rw [if_neg a] at hr ⊢
              have hok2 := hok.resolve_left a
              by_cases b : w = 2
              · rw [if_pos b] at hr ⊢; exact hr
              rw [if_neg b] at hr ⊢
              by_cases c : w = 0
              · rw [if_pos c] at hr ⊢
                rw [pzN_n hok2.1.1] at hr
                exact ⟨_, ctX8_primeOf_z (by decide) hW hok2.1.1 hok2.1.2 hQ.1, hr⟩
              · rw [if_neg c] at hr ⊢
                rw [pzN_n hok2.2.1] at hr
                exact ⟨_, ctX8_primeOf_z (by decide) hW hok2.2.1 hok2.2.2 hQ.1, hr⟩
            · intro c hc ih s hs
              refine bX10_swap_24 hC ?_
              rw [hQ.1.1 1 (by omega), if_pos (by omega)]
              have key2 : ∀ d, d ≤ N 1 → ∀ u : S3, u = swI N p q c (swO N p q c) d → X 39 [rV 19 0, iV (p : Int), iV (q : Int), iV w, iV u.1, iV u.2.1, lV u.2.2, uV, iV (c : Int), iV (d : Int), uV, uV] [] σ := by
                refine loop_up (P := fun d => ∀ u : S3, u = swI N p q c (swO N p q c) d → X 39 [rV 19 0, iV (p : Int), iV (q : Int), iV w, iV u.1, iV u.2.1, lV u.2.2, uV, iV (c : Int), iV (d : Int), uV, uV] [] σ) ?_ ?_
                · intro u hu
                  refine bX10_swap_39 hC ?_
                  rw [hQ.1.1 1 (by omega), if_neg (by omega), w32_s (by omega)]
                  exact ih u hu
                · intro d hd ihd u hu
                  refine bX10_swap_39 hC ?_
                  have ihd : ∀ u2 : S3, u2 = swS N p q c d u → X 39 [rV 19 0, iV (p : Int), iV (q : Int), iV w, iV u2.1, iV u2.2.1, lV u2.2.2, uV, iV (c : Int), iV ((d + 1 : Nat) : Int), uV, uV] [] σ := fun u2 h2 => ihd u2 (by rw [h2, hu]; rfl)
                  unfold swS at ihd
                  rw [hQ.1.1 1 (by omega), if_pos (by omega), w32_s (by omega)]
                  by_cases a1 : c = d
                  · rw [if_pos a1] at ihd
                    rw [if_pos (by omega)]
                    exact ihd _ rfl
                  rw [if_neg a1] at ihd
                  rw [if_neg (by omega)]
                  refine ⟨_, ctX8_held (by decide) hp5 (by omega) hQ.1, ?_⟩
                  by_cases a2 : hN N p c = 0
                  · rw [if_pos a2] at ihd
                    rw [if_pos (by omega)]
                    exact ihd _ rfl
                  rw [if_neg a2] at ihd
                  rw [if_neg (by omega)]
                  refine ⟨_, ctX8_held (by decide) hq5 (by omega) hQ.1, ?_⟩
                  by_cases a3 : hN N q d = 0
                  · rw [if_pos a3] at ihd
                    rw [if_pos (by omega)]
                    exact ihd _ rfl
                  rw [if_neg a3] at ihd
                  rw [if_neg (by omega)]
                  have hcq := hW.2.1 c hc
                  have hdq := hW.2.1 d hd
                  have hdf : Ct 4 MX8_differBySwap [rV 17 7, iV (p : Int), iV (q : Int), iV (c : Int), iV (d : Int)] σ (.inl [lV (dfN N p q c d)]) σ := by
                    refine (eX8_differBySwap (d := 3) ?_).mono (by decide)
                    intro X Xr Xt hC hr
                    refine bX8_differBySwap_0 hC ?_
                    exact ⟨_, ctX8_worthOf (by decide) hW hp5 hQ.1, _, ctX8_primeOf (by decide) hW hc hQ.1, by omega, _, ctX8_primeOf (by decide) hW hd hQ.1, _, ctX8_worthOf (by decide) hW hq5 hQ.1, _, ctX8_primeOf (by decide) hW hd hQ.1, by omega, _, ctX8_primeOf (by decide) hW hc hQ.1, hr⟩
                  refine ⟨_, hdf.mono (by decide), ?_⟩
                  by_cases a4 : u.1 = -1
                  · rw [if_pos a4] at ihd ⊢
                    have h3 := ihd ((c : Int), (d : Int), dfN N p q c d) rfl
                    dsimp only at h3
                    exact h3
                  rw [if_neg a4] at ihd ⊢
                  by_cases a5 : dfN N p q c d < u.2.2
                  · rw [if_pos a5] at ihd ⊢
                    have h3 := ihd ((c : Int), (d : Int), dfN N p q c d) rfl
                    dsimp only at h3
                    exact h3
                  rw [if_neg a5] at ihd ⊢
                  exact ihd _ rfl
              exact key2 0 (Nat.zero_le _) s hs
          exact key 0 (Nat.zero_le _) (-1, -1, 0) rfl
        · intro τ ha
          have hM0 := (InvN_ag hQ ha).2.1
          have hM : ∀ v, RowM (upS τ 66 5 v) 67 0 N := fun v => RowM_ups hM0 (by decide)
          refine ⟨upS τ 66 5 0, ?_, ups_eq, Inv_fr hI (th_fr ha)⟩
          refine (eX11_swap (d := 5) ?_).mono (by decide)
          intro X Xr Xt hC hr
          refine bX11_swap_0 hC ?_
          refine ⟨_, ctX11_isP (by decide) h5 hM0 h, ?_⟩
          rw [if_neg (by decide)]
          refine ⟨_, ctX11_isP (by decide) h5 hM0 g, ?_⟩
          rw [if_neg (by decide), if_neg e]
          refine ⟨_, ctX11_wi (by decide) hw, ?_⟩
          rw [if_neg (by decide), ups_eq, if_neg (by decide)]
          have key : ∀ c, c ≤ N 1 → ∀ s : S3, s = swO N p q c → X 69 [rV 20 66, iV (p : Int), iV (q : Int), iV w, iV (pzN N s.1), iV (pzN N s.2.1), lV s.2.2, uV, iV (c : Int), uV, uV, uV] [] (upS τ 66 5 0) := by
            refine loop_up (P := fun c => ∀ s : S3, s = swO N p q c → X 69 [rV 20 66, iV (p : Int), iV (q : Int), iV w, iV (pzN N s.1), iV (pzN N s.2.1), lV s.2.2, uV, iV (c : Int), uV, uV, uV] [] (upS τ 66 5 0)) ?_ ?_
            · intro s hs
              refine bX11_swap_69 hC ?_
              have hok := hrV s hs
              rw [← hs] at hr
              unfold swV at hr
              refine ⟨_, ctX11_coins (by decide) (hM 0), ?_⟩
              rw [if_neg (by omega)]
              by_cases a : s.1 = -1
              · rw [if_pos a] at hr
                rw [if_pos (by unfold pzN; rw [if_pos a])]
                exact hr
              rw [if_neg a] at hr
              have hok2 := hok.resolve_left a
              rw [if_neg (by rw [pzN_n hok2.1.1]; omega)]
              by_cases c : w = 0
              · rw [if_neg (by omega), if_pos c] at hr
                rw [if_pos c]
                exact hr
              · rw [if_neg c]
                by_cases b : w = 2
                · rw [if_pos b] at hr
                  rw [if_neg (by omega)]
                  exact hr
                · rw [if_neg b, if_neg c] at hr
                  rw [if_pos (by omega)]
                  exact hr
            · intro c hc ih s hs
              refine bX11_swap_69 hC ?_
              refine ⟨_, ctX11_coins (by decide) (hM 0), ?_⟩
              rw [if_pos (by omega)]
              have key2 : ∀ d, d ≤ N 1 → ∀ u : S3, u = swI N p q c (swO N p q c) d → X 81 [rV 20 66, iV (p : Int), iV (q : Int), iV w, iV (pzN N u.1), iV (pzN N u.2.1), lV u.2.2, uV, iV (c : Int), iV (d : Int), uV, uV] [] (upS τ 66 5 0) := by
                refine loop_up (P := fun d => ∀ u : S3, u = swI N p q c (swO N p q c) d → X 81 [rV 20 66, iV (p : Int), iV (q : Int), iV w, iV (pzN N u.1), iV (pzN N u.2.1), lV u.2.2, uV, iV (c : Int), iV (d : Int), uV, uV] [] (upS τ 66 5 0)) ?_ ?_
                · intro u hu
                  refine bX11_swap_81 hC ?_
                  refine ⟨_, ctX11_coins (by decide) (hM 0), ?_⟩
                  rw [if_neg (by omega), w32_s (by omega)]
                  exact ih u hu
                · intro d hd ihd u hu
                  refine bX11_swap_81 hC ?_
                  have huok : okW (N 1) u := by rw [hu]; exact swI_ok (swO_ok _ (by omega)) hc _ (by omega)
                  have ihd : ∀ u2 : S3, u2 = swS N p q c d u → X 81 [rV 20 66, iV (p : Int), iV (q : Int), iV w, iV (pzN N u2.1), iV (pzN N u2.2.1), lV u2.2.2, uV, iV (c : Int), iV ((d + 1 : Nat) : Int), uV, uV] [] (upS τ 66 5 0) := fun u2 h2 => ihd u2 (by rw [h2, hu]; rfl)
                  unfold swS at ihd
                  refine ⟨_, ctX11_coins (by decide) (hM 0), ?_⟩
                  rw [if_pos (by omega), w32_s (by omega)]
                  by_cases a1 : c = d
                  · rw [if_pos a1] at ihd
                    rw [if_pos (by omega)]
                    exact ihd _ rfl
                  rw [if_neg a1] at ihd
                  rw [if_neg (by omega)]
                  refine ⟨_, ctX11_of (by decide) hp5 (by omega) (hM 0), ?_⟩
                  by_cases a2 : hN N p c = 0
                  · rw [if_pos a2] at ihd
                    rw [if_pos (by omega)]
                    exact ihd _ rfl
                  rw [if_neg a2] at ihd
                  rw [if_neg (by omega)]
                  refine ⟨_, ctX11_of (by decide) hq5 (by omega) (hM 0), ?_⟩
                  by_cases a3 : hN N q d = 0
                  · rw [if_pos a3] at ihd
                    rw [if_pos (by omega)]
                    exact ihd _ rfl
                  rw [if_neg a3] at ihd
                  rw [if_neg (by omega)]
                  have hcq := hW.2.1 c hc
                  have hdq := hW.2.1 d hd
                  have hpc := ctX11_prime (d := 5) (c := c) (by decide) (by omega) (hM 0)
                  have hpd := ctX11_prime (d := 5) (c := d) (by decide) (by omega) (hM 0)
                  have ec : pzN N (c : Int) = (N (4 + c) : Int) := by rw [pzN_n (by omega), Int.toNat_natCast]
                  have ed : pzN N (d : Int) = (N (4 + d) : Int) := by rw [pzN_n (by omega), Int.toNat_natCast]
                  refine ⟨_, ctX11_worthOf (by decide) hp5 hW (hM 0), _, hpc, by omega, _, hpd, _, ctX11_worthOf (by decide) hq5 hW (hM 0), _, hpd, by omega, _, hpc, ?_⟩
                  by_cases a4 : u.1 = -1
                  · rw [if_pos a4] at ihd
                    rw [if_pos (by unfold pzN; rw [if_pos a4])]
                    have := ihd ((c : Int), (d : Int), dfN N p q c d) rfl
                    dsimp only at this
                    rw [ec, ed] at this
                    exact ⟨_, hpc, _, hpd, this⟩
                  rw [if_neg a4] at ihd
                  have hok2 := huok.resolve_left a4
                  rw [if_neg (by rw [pzN_n hok2.1.1]; omega)]
                  by_cases a5 : dfN N p q c d < u.2.2
                  · rw [if_pos a5] at ihd
                    rw [if_pos (by exact a5)]
                    have := ihd ((c : Int), (d : Int), dfN N p q c d) rfl
                    dsimp only at this
                    rw [ec, ed] at this
                    exact ⟨_, hpc, _, hpd, this⟩
                  rw [if_neg a5] at ihd
                  rw [if_neg (by exact a5)]
                  exact ihd _ rfl
              exact key2 0 (Nat.zero_le _) s hs
          exact key 0 (Nat.zero_le _) (-1, -1, 0) rfl
      · refine Or.inr ⟨2, σ, by decide, ?_, ?_⟩
        · refine (eX10_swap (d := 5) ?_).mono (by decide)
          intro X Xr Xt hC hr
          refine bX10_swap_0 hC ?_
          exact Or.inl ⟨ctX10_needTwo (by decide) hQ.1 h g e, Or.inr ⟨_, ctX10_needWhat_no (by decide) hw, hr⟩⟩
        · intro τ ha
          have hM0 := (InvN_ag hQ ha).2.1
          have hM : ∀ v, RowM (upS τ 66 5 v) 67 0 N := fun v => RowM_ups hM0 (by decide)
          refine ⟨0, upS τ 66 5 2, ?_, ups_eq, Inv_fr hI (th_fr ha)⟩
          refine (eX11_swap (d := 5) ?_).mono (by decide)
          intro X Xr Xt hC hr
          refine bX11_swap_0 hC ?_
          refine ⟨_, ctX11_isP (by decide) h5 hM0 h, ?_⟩
          rw [if_neg (by decide)]
          refine ⟨_, ctX11_isP (by decide) h5 hM0 g, ?_⟩
          rw [if_neg (by decide), if_neg e]
          refine ⟨_, ctX11_wi_no (by decide) hw, ?_⟩
          rw [if_pos (by decide), ups_eq, if_pos (by decide)]
          exact hr
  · refine Or.inr ⟨1, σ, by decide, ?_, ?_⟩
    · refine (eX10_swap (d := 5) ?_).mono (by decide)
      intro X Xr Xt hC hr
      refine bX10_swap_0 hC ?_
      exact Or.inr ⟨_, ctX10_needTwo_1 (by decide) hQ.1 h, hr⟩
    · intro τ ha
      have hM0 := (InvN_ag hQ ha).2.1
      have hM : ∀ v, RowM (upS τ 66 5 v) 67 0 N := fun v => RowM_ups hM0 (by decide)
      refine ⟨0, upS τ 66 5 1, ?_, ups_eq, Inv_fr hI (th_fr ha)⟩
      refine (eX11_swap (d := 5) ?_).mono (by decide)
      intro X Xr Xt hC hr
      refine bX11_swap_0 hC ?_
      by_cases a : 0 ≤ x ∧ x < N 2
      · refine ⟨_, ctX11_isP (by decide) h5 hM0 a, ?_⟩
        rw [if_neg (by decide)]
        refine ⟨_, ctX11_isP_no (by decide) h5 hM0 (fun g => h ⟨a, g⟩), ?_⟩
        rw [if_pos (by decide), ups_eq, if_pos (by decide)]
        exact hr
      · refine ⟨_, ctX11_isP_no (by decide) h5 hM0 a, ?_⟩
        rw [if_pos (by decide), ups_eq, if_pos (by decide)]
        exact hr
