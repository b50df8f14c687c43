/-! PAIRS: nearest, prices, dear -/
def dsI (v : Nat) (y : Int) : Int := if y ≤ (v : Int) then (v : Int) - y else y - (v : Int)
theorem dsI_lo {v : Nat} {y : Int} (h : (v : Int) < y) : dsI v y = y - (v : Int) := if_neg (by omega)
theorem dsI_hi {v : Nat} {y : Int} (h : y ≤ (v : Int)) : dsI v y = (v : Int) - y := if_pos h
theorem ds_eq {v : Nat} {y : Int} (hv : v ≤ 760231058654565217) (h1 : 1 < y) (h2 : y < 9223372036854775808) : absI (w64 ((v : Int) - y)) = dsI v y := by
  unfold absI dsI w64
  split <;> split <;> omega
def nrV (S : Nat → Nat) (y : Int) : Nat → Nat
  | 0 => 1
  | k + 1 => if k = 0 then 1 else if dsI (S k) y < dsI (nrV S y k) y then S k else nrV S y k
theorem nrV_s (S : Nat → Nat) (y : Int) {k : Nat} (h : k ≠ 0) : nrV S y (k + 1) = if dsI (S k) y < dsI (nrV S y k) y then S k else nrV S y k := if_neg h
theorem nrV_le {S : Nat → Nat} {y : Int} {m : Nat} (hb : ∀ k, k < m → 1 ≤ S k ∧ S k ≤ 760231058654565217) : ∀ k, k ≤ m → nrV S y k ≤ 760231058654565217 := by
  intro k
  induction k with
  | zero => intro _; show 1 ≤ _; decide
  | succ k ih =>
    intro hk
    by_cases z : k = 0
    · rw [show nrV S y (k + 1) = 1 from if_pos z]; decide
    · rw [nrV_s S y z]
      split
      · exact (hb k (by omega)).2
      · exact ih (by omega)
theorem fst_ex (S : Nat → Nat) (y : Int) : ∀ m, ∃ a, a ≤ m ∧ (∀ i, i < a → (S i : Int) < y) ∧ (a < m → y ≤ (S a : Int)) := by
  intro m
  induction m with
  | zero => exact ⟨0, Nat.le_refl 0, fun i h => absurd h (Nat.not_lt_zero i), fun h => absurd h (Nat.lt_irrefl 0)⟩
  | succ m ih =>
    obtain ⟨a, h1, h2, h3⟩ := ih
    by_cases q : a < m
    · exact ⟨a, by omega, h2, fun _ => h3 q⟩
    · have e : a = m := by omega
      by_cases q2 : y ≤ (S m : Int)
      · exact ⟨m, by omega, by rw [← e]; exact h2, fun _ => q2⟩
      · refine ⟨m + 1, Nat.le_refl _, ?_, fun h => by omega⟩
        intro i hi
        by_cases q3 : i = m
        · rw [q3]; omega
        · exact h2 i (by omega)
theorem nrV_fin {S : Nat → Nat} {y : Int} {m a : Nat} (hs : srt S m) (h0 : S 0 = 1) (hy : 1 < y) (hm : 0 < m) (ha : a ≤ m) (h2 : ∀ i, i < a → (S i : Int) < y) (h3 : a < m → y ≤ (S a : Int)) : 1 ≤ a ∧ (nrV S y m : Int) = if a = m then (S (m - 1) : Int) else if (S a : Int) - y < y - (S (a - 1) : Int) then (S a : Int) else (S (a - 1) : Int) := by
  have ha1 : 1 ≤ a := by
    by_cases z : a = 0
    · have := h3 (by omega)
      rw [z, h0] at this
      omega
    · omega
  refine ⟨ha1, ?_⟩
  have hA : ∀ k, 1 ≤ k → k ≤ a → nrV S y k = S (k - 1) := by
    intro k
    induction k with
    | zero => intro h; omega
    | succ k ih =>
      intro _ hk
      by_cases z : k = 0
      · rw [show nrV S y (k + 1) = 1 from if_pos z, show k + 1 - 1 = 0 by omega, h0]
      · have e := ih (by omega) (by omega)
        have l1 := h2 k (by omega)
        have l2 := h2 (k - 1) (by omega)
        have l3 := hs (k - 1) k (by omega) (by omega)
        rw [nrV_s S y z, e, show k + 1 - 1 = k by omega]
        rw [dsI_lo l1, dsI_lo l2]
        split
        · rfl
        · omega
  by_cases z : a = m
  · rw [if_pos z, ← z, hA a ha1 (Nat.le_refl a)]
  · rw [if_neg z]
    have l1 := h3 (by omega)
    have l2 := h2 (a - 1) (by omega)
    have hB : nrV S y (a + 1) = if (S a : Int) - y < y - (S (a - 1) : Int) then S a else S (a - 1) := by
      rw [nrV_s S y (show a ≠ 0 by omega), hA a ha1 (Nat.le_refl a)]
      rw [dsI_hi l1, dsI_lo l2]
    have hC : ∀ k, a + 1 ≤ k → k ≤ m → nrV S y k = nrV S y (a + 1) := by
      intro k
      induction k with
      | zero => intro h; omega
      | succ k ih =>
        intro hk hkm
        by_cases w : k + 1 = a + 1
        · rw [w]
        · have e := ih (by omega) (by omega)
          have l3 := hs a k (by omega) (by omega)
          rw [nrV_s S y (show k ≠ 0 by omega), e, if_neg]
          rw [hB, dsI_hi (show y ≤ (S k : Int) by omega)]
          by_cases q : (S a : Int) - y < y - (S (a - 1) : Int)
          · rw [if_pos q, dsI_hi l1]; omega
          · rw [if_neg q, dsI_lo l2]; omega
    rw [hC m (by omega) (Nat.le_refl m), hB]
    split <;> rfl
theorem jt_nearest {ω : Nat → Int} {σ : Sg} (hI : Inv ω σ) (x : Int) (y : Int) (hy : in64 y) : Jt ω MX10_nearest MX11_nearest [iV x, lV y] lV cdN σ := by
  obtain ⟨N, hQ⟩ := hI.1
  have hW := hQ.2.2
  have h5 := hW.1.2.1
  have h8 := hW.1.1
  by_cases h : 0 ≤ x ∧ x < N 2
  · obtain ⟨p, hp⟩ := z_nat h.1
    subst hp
    have hp5 : p < 5 := by omega
    obtain ⟨z1, z2, z3⟩ := prS_ok hW hp5
    have hm := fM_le hW hp5 h8
    have hm0 := fM_pos N p (N 1)
    have hfm := fmF_ok (σ := σ) (N := N) (p := p) (N 1)
    have hRf := fmF_row (p := p) (c := N 1) hQ.1
    have q55 : ∀ k, k < fM N p (N 1) → fmF σ N p (N 1) 55 k = (prS N p k : Int) := hfm.2.1
    obtain ⟨m, hmd⟩ : ∃ m, m = fM N p (N 1) := ⟨_, rfl⟩
    have hc54 := hfm.1
    rw [← hmd] at z1 z2 hm hm0 hc54 q55
    have hat : ∀ k, k < m → Ct 6 MX4_at [rV 13 54, iV (k : Int)] (fmF σ N p (N 1)) (.inl [lV (prS N p k : Int)]) (fmF σ N p (N 1)) := fun k hk => by
      have := ctX4_at (d := 6) (k := k) (by decide) hc54 hm hk
      rw [q55 k hk] at this
      exact this
    have hy2 := hy.2
    obtain ⟨V, hV⟩ : ∃ V : Int, V = if y ≤ 1 then 1 else (nrV (prS N p) y m : Int) := ⟨_, rfl⟩
    refine Or.inl ⟨V, fmF σ N p (N 1), ?_, ?_⟩
    · refine (eX10_nearest (d := 6) ?_).mono (by decide)
      intro X Xr Xt hC hr
      refine bX10_nearest_0 hC ?_
      refine Or.inl ⟨ctX10_needPerson (by decide) hQ.1 h, _, ctX4_fill (by decide) hW hp5 hQ.1, ?_⟩
      have hw : Ct 6 MX4_nearestTo [rV 13 54, lV y] (fmF σ N p (N 1)) (.inl [lV V]) (fmF σ N p (N 1)) := by
        refine (eX4_nearestTo (d := 5) ?_).mono (by decide)
        intro X Xr Xt hC hr
        refine bX4_nearestTo_0 hC ?_
        by_cases q : y ≤ 1
        · rw [if_pos q] at hV
          refine bX4_nearestTo_5 hC ?_
          rw [hV] at hr
          rw [if_neg (show ¬ 1 < y by omega)]
          split
          · exact hr
          · exact hr
        rw [if_neg q] at hV
        have key : ∀ k, k ≤ m → 1 ≤ k → ∀ g : Nat, g = nrV (prS N p) y k → X 5 [rV 13 54, lV y, uV, lV (g : Int), uV, iV (k : Int)] [] (fmF σ N p (N 1)) := by
          refine loop_up (P := fun k => 1 ≤ k → ∀ g : Nat, g = nrV (prS N p) y k → X 5 [rV 13 54, lV y, uV, lV (g : Int), uV, iV (k : Int)] [] (fmF σ N p (N 1))) ?_ ?_
          · intro _ g hg
            refine bX4_nearestTo_5 hC ?_
            rw [hc54, if_neg (by omega)]
            rw [hV, ← hg] at hr
            exact hr
          · intro k hk ih h1 g hg
            refine bX4_nearestTo_5 hC ?_
            have h1a := ctX4_at (d := 5) (k := k) (by decide) hc54 hm hk
            rw [q55 k hk] at h1a
            have hs := nrV_s (prS N p) y (show k ≠ 0 by omega)
            have hgl := nrV_le (y := y) z2 k (by omega)
            rw [← hg] at hs hgl
            rw [hc54, if_pos (by omega), if_pos (by omega)]
            refine ⟨_, h1a, ?_⟩
            rw [ds_eq (z2 k hk).2 (by omega) hy2, ds_eq hgl (by omega) hy2, w32_s (by omega)]
            by_cases c : dsI (prS N p k) y < dsI g y
            · rw [if_pos c] at hs ⊢
              exact ⟨_, h1a, ih (by omega) _ hs.symm⟩
            · rw [if_neg c] at hs ⊢
              exact ih (by omega) _ hs.symm
        exact key 1 (by omega) (Nat.le_refl 1) 1 rfl
      exact ⟨_, hw, hr⟩
    · intro τ ha
      have hM0 := RowM_c hQ.2.1 fmF_fr ha
      have hM1 : RowM (upS τ 66 5 0) 67 0 N := RowM_ups hM0 (by decide)
      have hpe := pr_eq hW (p := p)
      have hlp := ctX11_laysPrices (d := 6) (by decide) hW hp5 hM1
      rw [← hmd] at hlp hpe
      obtain ⟨υ, hυ⟩ : ∃ υ, υ = rP (upS τ 66 5 0) m (isF (lR N p (N 1)) m) := ⟨_, rfl⟩
      rw [← hυ] at hlp
      have u20 : υ 66 20 = (m : Int) := by rw [hυ]; exact rP_n
      have u74 : ∀ k, k < m → υ 74 k = (prS N p k : Int) := fun k hk => by rw [hυ, rP_k hk, hpe k hk]
      have hfr : FrR τ υ := by rw [hυ]; exact (th_r (FrR.refl τ)).trans rP_fr
      have u5 : υ 66 5 = 0 := by rw [hυ, rP_66 (by decide)]; exact ups_eq
      have hMu : RowM υ 67 0 N := by rw [hυ]; exact RowM_cell hM1 (rP_cell (by decide) (by decide))
      clear hυ
      refine ⟨υ, ?_, u5, wr_end hI fmF_fr hRf ha hfr hMu hW⟩
      refine (eX11_nearest (d := 6) ?_).mono (by decide)
      intro X Xr Xt hC hr
      refine bX11_nearest_0 hC ?_
      refine ⟨_, ctX11_isP (by decide) h5 hM1 h, ?_⟩
      rw [if_neg (by decide)]
      refine ⟨_, hlp, ?_⟩
      obtain ⟨a, a1, a2, a3⟩ := fst_ex (prS N p) y m
      have u740 : υ 74 0 = 1 := by rw [u74 0 (by omega), z3]; rfl
      have key : ∀ k, k ≤ a → X 29 [rV 20 66, iV (p : Int), lV y, uV, iV (k : Int)] [] υ := by
        refine loop_up (P := fun k => X 29 [rV 20 66, iV (p : Int), lV y, uV, iV (k : Int)] [] υ) ?_ ?_
        · refine bX11_nearest_29 hC ?_
          rw [u20, u740]
          by_cases q : y ≤ 1
          · rw [if_pos q] at hV
            rw [hV] at hr
            have ha0 : a = 0 := by
              by_cases w : a = 0
              · exact w
              · have := a2 0 (by omega)
                rw [z3] at this
                omega
            rw [ha0, if_pos (by omega), if_neg, if_pos (show ((0 : Nat) : Int) = 0 from rfl)]
            · exact ⟨by omega, hr⟩
            · rw [Int.toNat_natCast, u740]; omega
          · rw [if_neg q] at hV
            obtain ⟨ha1, hf⟩ := nrV_fin z1 z3 (by omega) hm0 a1 a2 a3
            rw [hf] at hV
            by_cases w : a = m
            · rw [if_pos w] at hV
              rw [if_neg (by omega), if_neg (by omega), if_pos (by omega), w_km (by omega) (by omega), Int.toNat_natCast, u74 (a - 1) (by omega), w]
              rw [hV] at hr
              exact ⟨by omega, hr⟩
            · rw [if_neg w] at hV
              have l1 := a3 (by omega)
              have l2 := a2 (a - 1) (by omega)
              have hz1 := z2 a (by omega)
              have hz2 := z2 (a - 1) (by omega)
              have e1 : w64 ((prS N p a : Int) - y) = (prS N p a : Int) - y := w64_id (by omega) (by omega)
              have e2 : w64 (y - (prS N p (a - 1) : Int)) = y - (prS N p (a - 1) : Int) := w64_id (by omega) (by omega)
              rw [if_pos (by clear e1 e2; omega), Int.toNat_natCast, u74 a (by clear e1 e2; omega), if_neg (by clear e1 e2; omega), if_neg (by clear e1 e2; omega), if_neg (by clear e1 e2; omega), w_km (by clear e1 e2; omega) (by clear e1 e2; omega), Int.toNat_natCast, u74 (a - 1) (by clear e1 e2; omega), e1, e2]
              clear e1 e2
              refine ⟨by omega, by omega, by omega, ?_⟩
              by_cases c : (prS N p a : Int) - y < y - (prS N p (a - 1) : Int)
              · rw [if_pos c] at hV
                rw [hV] at hr
                rw [if_pos c]
                exact ⟨by omega, hr⟩
              · rw [if_neg c] at hV
                rw [hV] at hr
                rw [if_neg c]
                exact ⟨by omega, hr⟩
        · intro k hk ih
          refine bX11_nearest_29 hC ?_
          have := a2 k hk
          rw [u20, if_pos (by omega), Int.toNat_natCast, u74 k (by omega), if_pos this, w32_s (by omega)]
          exact ⟨by omega, ih⟩
      exact key 0 (Nat.zero_le _)
  · refine Or.inr ⟨1, σ, by decide, ?_, ?_⟩
    · refine (eX10_nearest (d := 6) ?_).mono (by decide)
      intro X Xr Xt hC hr
      refine bX10_nearest_0 hC ?_
      exact Or.inr ⟨_, ctX10_needPerson_no (by decide) hQ.1 h, hr⟩
    · intro τ ha
      have hM0 := (InvN_ag hQ ha).2.1
      have hM : ∀ v, RowM (upS τ 66 5 v) 67 0 N := fun v => RowM_ups hM0 (by decide)
      refine ⟨0, upS (upS τ 66 5 0) 66 5 1, ?_, ups_eq, Inv_fr hI ((th_fr ha).ups66 (by decide) (by decide) (by decide))⟩
      refine (eX11_nearest (d := 6) ?_).mono (by decide)
      intro X Xr Xt hC hr
      refine bX11_nearest_0 hC ?_
      refine ⟨_, ctX11_isP_no (by decide) h5 (hM 0) h, ?_⟩
      rw [if_pos (by decide)]
      exact ⟨_, _, ctX11_fails (by decide), hr⟩
def smQ (N : Tn) (p : Nat) (q : Int) (c : Nat) : Nat := prodN (fun e => if (N (4 + e) : Int) ≤ q then hN N p e + 1 else 1) c
theorem smQ_s (N : Tn) (p : Nat) (q : Int) (c : Nat) : smQ N p q (c + 1) = smQ N p q c * (if (N (4 + c) : Int) ≤ q then hN N p c + 1 else 1) := rfl
theorem smQ_le {N : Tn} (hW : WFN N) {p : Nat} (hp : p < 5) (q : Int) : ∀ c, c ≤ 8 → smQ N p q c ≤ 384 := by
  intro c hc
  have : ∀ c, smQ N p q c ≤ fM N p c := by
    intro c
    induction c with
    | zero => exact Nat.le_refl 1
    | succ c ih =>
      rw [smQ_s, fM_s]
      exact Nat.mul_le_mul ih (by split <;> omega)
  exact Nat.le_trans (this c) (fM_le hW hp hc)
theorem smQ_97 {N : Tn} (hW : WFN N) {p : Nat} : smQ N p 97 (N 1) = fM N p (N 1) := prodN_congr (fun e he => if_pos (by have := (hW.2.1 e he).2.2; omega))
theorem ctX8_smoothPrices {d p t : Nat} {q : Int} {N : Tn} (hd : 2 ≤ d) (hW : WFN N) (hp : p < 5) {σ : Sg} (hR : RowT σ t N) : Ct d MX8_smoothPrices [rV 17 t, iV (p : Int), iV q] σ (.inl [iV (smQ N p q (N 1) : Int)]) σ := by
  have h8 := hW.1.1
  refine (eX8_smoothPrices (d := 1) ?_).mono hd
  intro X Xr Xt hC hr
  refine bX8_smoothPrices_0 hC ?_
  have key : ∀ c, c ≤ N 1 → ∀ g : Nat, g = smQ N p q c → X 5 [rV 17 t, iV (p : Int), iV q, iV (g : Int), iV (c : Int)] [] σ := by
    refine loop_up (P := fun c => ∀ g : Nat, g = smQ N p q c → X 5 [rV 17 t, iV (p : Int), iV q, iV (g : Int), iV (c : Int)] [] σ) ?_ ?_
    · intro g hg
      refine bX8_smoothPrices_5 hC ?_
      rw [hR.1 1 (by decide), if_neg (by omega), hg]
      exact hr
    · intro c hc ih g hg
      refine bX8_smoothPrices_5 hC ?_
      have hs := smQ_s N p q c
      have hb := smQ_le hW hp q (c + 1) (by omega)
      have hh := hN_le hW hp (show c < 8 by omega)
      rw [← hg] at hs
      rw [hR.1 1 (by decide), if_pos (by omega)]
      refine ⟨_, ctX8_primeOf (by decide) hW hc hR, ?_⟩
      rw [w32_s (show c < 2147483647 by omega)]
      by_cases z : (N (4 + c) : Int) ≤ q
      · rw [if_pos z] at hs
        rw [if_neg (by omega)]
        refine ⟨_, ctX8_held (by decide) hp (by omega) hR, ?_⟩
        rw [w32_s (show hN N p c < 2147483647 by omega), ← Int.natCast_mul, ← hs, w32_n (by omega)]
        exact ih _ rfl
      · rw [if_neg z, Nat.mul_one] at hs
        rw [if_pos (by omega)]
        exact ih _ hs.symm
  exact key 0 (Nat.zero_le _) 1 rfl
theorem jt_prices {ω : Nat → Int} {σ : Sg} (hI : Inv ω σ) (x : Int) : Jt ω MX10_prices MX11_prices [iV x] iV cdN σ := by
  obtain ⟨N, hQ⟩ := hI.1
  have hW := hQ.2.2
  have h5 := hW.1.2.1
  have h8 := hW.1.1
  by_cases h : 0 ≤ x ∧ x < N 2
  · obtain ⟨p, hp⟩ := z_nat h.1
    subst hp
    have hp5 : p < 5 := by omega
    obtain ⟨z1, z2, z3⟩ := prS_ok hW hp5
    have hm := fM_le hW hp5 h8
    have hm0 := fM_pos N p (N 1)
    have hfm := fmF_ok (σ := σ) (N := N) (p := p) (N 1)
    have hRf := fmF_row (p := p) (c := N 1) hQ.1
    have q55 : ∀ k, k < fM N p (N 1) → fmF σ N p (N 1) 55 k = (prS N p k : Int) := hfm.2.1
    obtain ⟨m, hmd⟩ : ∃ m, m = fM N p (N 1) := ⟨_, rfl⟩
    have hc54 := hfm.1
    rw [← hmd] at z1 z2 hm hm0 hc54 q55
    have hat : ∀ k, k < m → Ct 6 MX4_at [rV 13 54, iV (k : Int)] (fmF σ N p (N 1)) (.inl [lV (prS N p k : Int)]) (fmF σ N p (N 1)) := fun k hk => by
      have := ctX4_at (d := 6) (k := k) (by decide) hc54 hm hk
      rw [q55 k hk] at this
      exact this
    refine Or.inl ⟨(m : Int), σ, ?_, ?_⟩
    · refine (eX10_prices (d := 6) ?_).mono (by decide)
      intro X Xr Xt hC hr
      refine bX10_prices_0 hC ?_
      have hsp := ctX8_smoothPrices (d := 6) (p := p) (q := 97) (by decide) hW hp5 hQ.1
      rw [smQ_97 hW, ← hmd] at hsp
      exact Or.inl ⟨ctX10_needPerson (by decide) hQ.1 h, _, hsp, hr⟩
    · intro τ ha
      have hM0 := RowM_c hQ.2.1 (FrC.refl σ) ha
      have hM1 : RowM (upS τ 66 5 0) 67 0 N := RowM_ups hM0 (by decide)
      have hpe := pr_eq hW (p := p)
      have hlp := ctX11_laysPrices (d := 6) (by decide) hW hp5 hM1
      rw [← hmd] at hlp hpe
      obtain ⟨υ, hυ⟩ : ∃ υ, υ = rP (upS τ 66 5 0) m (isF (lR N p (N 1)) m) := ⟨_, rfl⟩
      rw [← hυ] at hlp
      have u20 : υ 66 20 = (m : Int) := by rw [hυ]; exact rP_n
      have u74 : ∀ k, k < m → υ 74 k = (prS N p k : Int) := fun k hk => by rw [hυ, rP_k hk, hpe k hk]
      have hfr : FrR τ υ := by rw [hυ]; exact (th_r (FrR.refl τ)).trans rP_fr
      have u5 : υ 66 5 = 0 := by rw [hυ, rP_66 (by decide)]; exact ups_eq
      have hMu : RowM υ 67 0 N := by rw [hυ]; exact RowM_cell hM1 (rP_cell (by decide) (by decide))
      clear hυ
      refine ⟨υ, ?_, u5, wr_end hI (FrC.refl σ) hQ.1 ha hfr hMu hW⟩
      refine (eX11_prices (d := 6) ?_).mono (by decide)
      intro X Xr Xt hC hr
      refine bX11_prices_0 hC ?_
      refine ⟨_, ctX11_isP (by decide) h5 hM1 h, ?_⟩
      rw [if_neg (by decide)]
      refine ⟨_, hlp, ?_⟩
      rw [u20]
      exact hr
  · refine Or.inr ⟨1, σ, by decide, ?_, ?_⟩
    · refine (eX10_prices (d := 6) ?_).mono (by decide)
      intro X Xr Xt hC hr
      refine bX10_prices_0 hC ?_
      exact Or.inr ⟨_, ctX10_needPerson_no (by decide) hQ.1 h, hr⟩
    · intro τ ha
      have hM0 := (InvN_ag hQ ha).2.1
      have hM : ∀ v, RowM (upS τ 66 5 v) 67 0 N := fun v => RowM_ups hM0 (by decide)
      refine ⟨0, upS (upS τ 66 5 0) 66 5 1, ?_, ups_eq, Inv_fr hI ((th_fr ha).ups66 (by decide) (by decide) (by decide))⟩
      refine (eX11_prices (d := 6) ?_).mono (by decide)
      intro X Xr Xt hC hr
      refine bX11_prices_0 hC ?_
      refine ⟨_, ctX11_isP_no (by decide) h5 (hM 0) h, ?_⟩
      rw [if_pos (by decide)]
      exact ⟨_, _, ctX11_fails (by decide), hr⟩
theorem jt_dear {ω : Nat → Int} {σ : Sg} (hI : Inv ω σ) (x y : Int) : Jt ω MX10_dear MX11_dear [iV x, iV y] iV cdNI σ := by
  obtain ⟨N, hQ⟩ := hI.1
  have hW := hQ.2.2
  have h5 := hW.1.2.1
  have h8 := hW.1.1
  by_cases h : 0 ≤ x ∧ x < N 2
  · by_cases g : smallP y = true
    · obtain ⟨p, hp⟩ := z_nat h.1
      subst hp
      have hp5 : p < 5 := by omega
      have gi := (smallP_iff y).mp g
      refine Or.inl ⟨(smQ N p y (N 1) : Int), σ, ?_, ?_⟩
      · refine (eX10_dear (d := 6) ?_).mono (by decide)
        intro X Xr Xt hC hr
        refine bX10_dear_0 hC ?_
        exact Or.inl ⟨ctX10_needPerson (by decide) hQ.1 h, Or.inl ⟨ctX10_needSmallPrime (by decide) g, _, ctX8_smoothPrices (by decide) hW hp5 hQ.1, hr⟩⟩
      · intro τ ha
        have hM0 := (InvN_ag hQ ha).2.1
        have hM : ∀ v, RowM (upS τ 66 5 v) 67 0 N := fun v => RowM_ups hM0 (by decide)
        refine ⟨upS τ 66 5 0, ?_, ups_eq, Inv_fr hI (th_fr ha)⟩
        refine (eX11_dear (d := 6) ?_).mono (by decide)
        intro X Xr Xt hC hr
        refine bX11_dear_0 hC ?_
        refine ⟨_, ctX11_isP (by decide) h5 hM0 h, ?_⟩
        rw [if_neg (by decide)]
        refine ⟨_, ctX11_wi (by decide) gi.1, ?_⟩
        rw [if_neg (by decide)]
        obtain ⟨n, hn⟩ := z_nat (show 0 ≤ y by omega)
        subst hn
        rw [Int.toNat_natCast] at gi
        refine ⟨_, ctX11_isPrime (by decide) (by omega), ?_⟩
        rw [gi.2, if_neg (by decide), ups_eq, if_neg (by decide)]
        have key : ∀ c, c ≤ N 1 → ∀ g : Nat, g = smQ N p (n : Int) c → X 57 [rV 20 66, iV (p : Int), iV (n : Int), iV (g : Int), iV (c : Int)] [] (upS τ 66 5 0) := by
          refine loop_up (P := fun c => ∀ g : Nat, g = smQ N p (n : Int) c → X 57 [rV 20 66, iV (p : Int), iV (n : Int), iV (g : Int), iV (c : Int)] [] (upS τ 66 5 0)) ?_ ?_
          · intro g hg
            refine bX11_dear_57 hC ?_
            refine ⟨_, ctX11_coins (by decide) (hM 0), ?_⟩
            rw [if_neg (by omega), hg]
            exact hr
          · intro c hc ih g hg
            refine bX11_dear_57 hC ?_
            have hs := smQ_s N p (n : Int) c
            have hb := smQ_le hW hp5 (n : Int) (c + 1) (by omega)
            have hb0 := smQ_le hW hp5 (n : Int) c (by omega)
            have hh := hN_le hW hp5 (show c < 8 by omega)
            rw [← hg] at hs hb0
            refine ⟨_, ctX11_coins (by decide) (hM 0), ?_⟩
            rw [if_pos (by omega)]
            refine ⟨_, ctX11_prime (by decide) (by omega) (hM 0), ?_⟩
            rw [w32_s (show c < 2147483647 by omega), Int.mul_one, w32_n (show g < 2147483648 by omega)]
            by_cases z : (N (4 + c) : Int) ≤ (n : Int)
            · rw [if_pos z] at hs
              rw [if_neg (by omega)]
              refine ⟨_, ctX11_of (by decide) hp5 (by omega) (hM 0), ?_⟩
              rw [w32_s (show hN N p c < 2147483647 by omega), ← Int.natCast_mul, ← hs, w32_n (by omega)]
              exact ih _ rfl
            · rw [if_neg z, Nat.mul_one] at hs
              rw [if_pos (by omega)]
              exact ih _ hs.symm
        exact key 0 (Nat.zero_le _) 1 rfl
    · refine Or.inr ⟨2, σ, by decide, ?_, ?_⟩
      · refine (eX10_dear (d := 6) ?_).mono (by decide)
        intro X Xr Xt hC hr
        refine bX10_dear_0 hC ?_
        exact Or.inl ⟨ctX10_needPerson (by decide) hQ.1 h, Or.inr ⟨_, ctX10_needSmallPrime_no (by decide) (Bool.eq_false_iff.mpr g), hr⟩⟩
      · intro τ ha
        have hM0 := (InvN_ag hQ ha).2.1
        have hM : ∀ v, RowM (upS τ 66 5 v) 67 0 N := fun v => RowM_ups hM0 (by decide)
        refine ⟨0, upS τ 66 5 2, ?_, ups_eq, Inv_fr hI (th_fr ha)⟩
        refine (eX11_dear (d := 6) ?_).mono (by decide)
        intro X Xr Xt hC hr
        refine bX11_dear_0 hC ?_
        refine ⟨_, ctX11_isP (by decide) h5 hM0 h, ?_⟩
        rw [if_neg (by decide)]
        by_cases q : 2 ≤ y ∧ y ≤ 97
        · refine ⟨_, ctX11_wi (by decide) q, ?_⟩
          rw [if_neg (by decide)]
          obtain ⟨n, hn⟩ := z_nat (show 0 ≤ y by omega)
          subst hn
          have gf : isPr n = false := Bool.eq_false_iff.mpr (fun z => g ((smallP_iff (n : Int)).mpr ⟨q, by rw [Int.toNat_natCast]; exact z⟩))
          refine ⟨_, ctX11_isPrime (by decide) (by omega), ?_⟩
          rw [gf, if_pos (by decide), ups_eq, if_pos (by decide)]
          exact hr
        · refine ⟨_, ctX11_wi_no (by decide) q, ?_⟩
          rw [if_pos (by decide), ups_eq, if_pos (by decide)]
          exact hr
  · refine Or.inr ⟨1, σ, by decide, ?_, ?_⟩
    · refine (eX10_dear (d := 6) ?_).mono (by decide)
      intro X Xr Xt hC hr
      refine bX10_dear_0 hC ?_
      exact Or.inr ⟨_, ctX10_needPerson_no (by decide) hQ.1 h, hr⟩
    · intro τ ha
      have hM0 := (InvN_ag hQ ha).2.1
      have hM : ∀ v, RowM (upS τ 66 5 v) 67 0 N := fun v => RowM_ups hM0 (by decide)
      refine ⟨0, upS τ 66 5 1, ?_, ups_eq, Inv_fr hI (th_fr ha)⟩
      refine (eX11_dear (d := 6) ?_).mono (by decide)
      intro X Xr Xt hC hr
      refine bX11_dear_0 hC ?_
      refine ⟨_, ctX11_isP_no (by decide) h5 hM0 h, ?_⟩
      rw [if_pos (by decide), ups_eq, if_pos (by decide)]
      exact hr
