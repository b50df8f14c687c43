/-! PAIRS: price, gap, nearest, half, between, prices, dear -/
theorem fmF_fr {σ : Sg} {N : Tn} {p c : Nat} : FrC σ (fmF σ N p c) := FrC.of (fun a ha => (fmF_ok c).2.2 a (fun q => by
  rcases ha with ⟨h1, _⟩ | h1
  · exact h1 (by rw [q]; decide)
  · omega) (fun q => by
  rcases ha with ⟨h1, _⟩ | h1
  · exact h1 (by rw [q]; decide)
  · omega) (fun q => by
  rcases ha with ⟨h1, _⟩ | h1
  · exact h1 (by rw [q]; decide)
  · omega))
theorem fmF_row {σ : Sg} {N : Tn} {p c : Nat} (hR : RowT σ 7 N) : RowT (fmF σ N p c) 7 N := RowT_fr hR (fun i hi => (fmF_ok c).2.2 _ (by omega) (by omega) (by omega))
theorem rP_fr {τ : Sg} {n : Nat} {F : Nat → Nat} : FrR τ (rP τ n F) := by
  have h1 : FrR τ (stS τ 74 n (fun j => (F j : Int))) := (FrR.refl τ).cell (c := 74) (by decide) (by decide) (fun b hb => stS_cell hb)
  exact h1.ups66 (by decide) (by decide) (by decide)
theorem ctX4_at {d k m : Nat} {σ : Sg} (hd : 1 ≤ d) (hm : σ 54 0 = (m : Int)) (h3 : m ≤ 384) (hk : k < m) : Ct d MX4_at [rV 13 54, iV (k : Int)] σ (.inl [lV (σ 55 k)]) σ := by
  refine (eX4_at (d := 0) ?_).mono hd
  intro X Xr Xt hC hr
  refine bX4_at_0 hC ?_
  rw [if_neg (by omega), hm, if_pos (by omega), Int.toNat_natCast]
  exact ⟨by omega, hr⟩
theorem jt_price {ω : Nat → Int} {σ : Sg} (hI : Inv ω σ) (x : Int) (y : Int) : Jt ω MX10_price MX11_price [iV x, iV y] lV cdN σ := by
  obtain ⟨N, hQ⟩ := hI.1
  have hW := hQ.2.2
  have h5 := hW.1.2.1
  have h8 := hW.1.1
  by_cases h : 0 ≤ x ∧ x < N 2
  · obtain ⟨p, hp⟩ := z_nat h.1
    subst hp
    have hp5 : p < 5 := by omega
    obtain ⟨z1, z2, z3⟩ := prS_ok hW hp5
    have hm := fM_le hW hp5 h8
    have hm0 := fM_pos N p (N 1)
    have hfm := fmF_ok (σ := σ) (N := N) (p := p) (N 1)
    have hRf := fmF_row (p := p) (c := N 1) hQ.1
    have q55 : ∀ k, k < fM N p (N 1) → fmF σ N p (N 1) 55 k = (prS N p k : Int) := hfm.2.1
    obtain ⟨m, hmd⟩ : ∃ m, m = fM N p (N 1) := ⟨_, rfl⟩
    have hc54 := hfm.1
    rw [← hmd] at z1 z2 hm hm0 hc54 q55
    have hat : ∀ k, k < m → Ct 6 MX4_at [rV 13 54, iV (k : Int)] (fmF σ N p (N 1)) (.inl [lV (prS N p k : Int)]) (fmF σ N p (N 1)) := fun k hk => by
      have := ctX4_at (d := 6) (k := k) (by decide) hc54 hm hk
      rw [q55 k hk] at this
      exact this
    obtain ⟨V, hV⟩ : ∃ V : Int, V = if 0 ≤ y ∧ y < (m : Int) then (prS N p y.toNat : Int) else -1 := ⟨_, rfl⟩
    refine Or.inl ⟨V, fmF σ N p (N 1), ?_, ?_⟩
    · refine (eX10_price (d := 6) ?_).mono (by decide)
      intro X Xr Xt hC hr
      refine bX10_price_0 hC ?_
      refine Or.inl ⟨ctX10_needPerson (by decide) hQ.1 h, _, ctX4_fill (by decide) hW hp5 hQ.1, ?_⟩
      rw [hc54]
      by_cases q1 : y < 0
      · rw [if_neg (by omega)] at hV
        rw [if_pos q1]
        rw [hV] at hr
        exact hr
      rw [if_neg q1]
      by_cases q2 : y < m
      · rw [if_pos ⟨by omega, q2⟩] at hV
        rw [if_pos q2]
        obtain ⟨k, hk⟩ := z_nat (show 0 ≤ y by omega)
        subst hk
        rw [Int.toNat_natCast] at hV
        rw [hV] at hr
        exact ⟨_, hat k (by omega), hr⟩
      · rw [if_neg (by omega)] at hV
        rw [if_neg q2]
        rw [hV] at hr
        exact hr
    · intro τ ha
      have hM0 := RowM_c hQ.2.1 fmF_fr ha
      have hM1 : RowM (upS τ 66 5 0) 67 0 N := RowM_ups hM0 (by decide)
      have hpe := pr_eq hW (p := p)
      have hlp := ctX11_laysPrices (d := 6) (by decide) hW hp5 hM1
      rw [← hmd] at hlp hpe
      obtain ⟨υ, hυ⟩ : ∃ υ, υ = rP (upS τ 66 5 0) m (isF (lR N p (N 1)) m) := ⟨_, rfl⟩
      rw [← hυ] at hlp
      have u20 : υ 66 20 = (m : Int) := by rw [hυ]; exact rP_n
      have u74 : ∀ k, k < m → υ 74 k = (prS N p k : Int) := fun k hk => by rw [hυ, rP_k hk, hpe k hk]
      have hfr : FrR τ υ := by rw [hυ]; exact (th_r (FrR.refl τ)).trans rP_fr
      have u5 : υ 66 5 = 0 := by rw [hυ, rP_66 (by decide)]; exact ups_eq
      have hMu : RowM υ 67 0 N := by rw [hυ]; exact RowM_cell hM1 (rP_cell (by decide) (by decide))
      clear hυ
      refine ⟨υ, ?_, u5, wr_end hI fmF_fr hRf ha hfr hMu hW⟩
      refine (eX11_price (d := 6) ?_).mono (by decide)
      intro X Xr Xt hC hr
      refine bX11_price_0 hC ?_
      refine ⟨_, ctX11_isP (by decide) h5 hM1 h, ?_⟩
      rw [if_neg (by decide)]
      refine ⟨_, hlp, ?_⟩
      rw [u20, w_p1 (by omega)]
      by_cases q : 0 ≤ y ∧ y < m
      · rw [if_pos q] at hV
        refine ⟨_, ctX11_wi (by decide) ⟨q.1, by omega⟩, ?_⟩
        rw [if_neg (by decide)]
        obtain ⟨k, hk⟩ := z_nat q.1
        subst hk
        rw [Int.toNat_natCast] at hV ⊢
        rw [hV] at hr
        rw [u74 k (by omega)]
        exact ⟨by omega, hr⟩
      · rw [if_neg q] at hV
        refine ⟨_, ctX11_wi_no (by decide) (by omega), ?_⟩
        rw [if_pos (by decide)]
        rw [hV] at hr
        exact hr
  · refine Or.inr ⟨1, σ, by decide, ?_, ?_⟩
    · refine (eX10_price (d := 6) ?_).mono (by decide)
      intro X Xr Xt hC hr
      refine bX10_price_0 hC ?_
      exact Or.inr ⟨_, ctX10_needPerson_no (by decide) hQ.1 h, hr⟩
    · intro τ ha
      have hM0 := (InvN_ag hQ ha).2.1
      have hM : ∀ v, RowM (upS τ 66 5 v) 67 0 N := fun v => RowM_ups hM0 (by decide)
      refine ⟨0, upS (upS τ 66 5 0) 66 5 1, ?_, ups_eq, Inv_fr hI ((th_fr ha).ups66 (by decide) (by decide) (by decide))⟩
      refine (eX11_price (d := 6) ?_).mono (by decide)
      intro X Xr Xt hC hr
      refine bX11_price_0 hC ?_
      refine ⟨_, ctX11_isP_no (by decide) h5 (hM 0) h, ?_⟩
      rw [if_pos (by decide)]
      exact ⟨_, _, ctX11_fails (by decide), hr⟩
def gpV (S : Nat → Nat) : Nat → Int
  | 0 => 0
  | k + 1 => if k = 0 then 0 else max (gpV S k) (w64 ((S k : Int) - (S (k - 1) : Int)))
theorem gpV_s (S : Nat → Nat) {k : Nat} (h : k ≠ 0) : gpV S (k + 1) = max (gpV S k) (w64 ((S k : Int) - (S (k - 1) : Int))) := if_neg h
theorem w_km {k : Nat} (h0 : 0 < k) (h : k < 2147483648) : w32 ((k : Int) - 1) = ((k - 1 : Nat) : Int) := by unfold w32; omega
theorem jt_gap {ω : Nat → Int} {σ : Sg} (hI : Inv ω σ) (x : Int) : Jt ω MX10_gap MX11_gap [iV x] lV cdN σ := by
  obtain ⟨N, hQ⟩ := hI.1
  have hW := hQ.2.2
  have h5 := hW.1.2.1
  have h8 := hW.1.1
  by_cases h : 0 ≤ x ∧ x < N 2
  · obtain ⟨p, hp⟩ := z_nat h.1
    subst hp
    have hp5 : p < 5 := by omega
    obtain ⟨z1, z2, z3⟩ := prS_ok hW hp5
    have hm := fM_le hW hp5 h8
    have hm0 := fM_pos N p (N 1)
    have hfm := fmF_ok (σ := σ) (N := N) (p := p) (N 1)
    have hRf := fmF_row (p := p) (c := N 1) hQ.1
    have q55 : ∀ k, k < fM N p (N 1) → fmF σ N p (N 1) 55 k = (prS N p k : Int) := hfm.2.1
    obtain ⟨m, hmd⟩ : ∃ m, m = fM N p (N 1) := ⟨_, rfl⟩
    have hc54 := hfm.1
    rw [← hmd] at z1 z2 hm hm0 hc54 q55
    have hat : ∀ k, k < m → Ct 6 MX4_at [rV 13 54, iV (k : Int)] (fmF σ N p (N 1)) (.inl [lV (prS N p k : Int)]) (fmF σ N p (N 1)) := fun k hk => by
      have := ctX4_at (d := 6) (k := k) (by decide) hc54 hm hk
      rw [q55 k hk] at this
      exact this
    refine Or.inl ⟨gpV (prS N p) m, fmF σ N p (N 1), ?_, ?_⟩
    · refine (eX10_gap (d := 6) ?_).mono (by decide)
      intro X Xr Xt hC hr
      refine bX10_gap_0 hC ?_
      refine Or.inl ⟨ctX10_needPerson (by decide) hQ.1 h, _, ctX4_fill (by decide) hW hp5 hQ.1, ?_⟩
      have hw : Ct 6 MX4_widest [rV 13 54] (fmF σ N p (N 1)) (.inl [lV (gpV (prS N p) m)]) (fmF σ N p (N 1)) := by
        refine (eX4_widest (d := 5) ?_).mono (by decide)
        intro X Xr Xt hC hr
        refine bX4_widest_0 hC ?_
        have key : ∀ k, k ≤ m → 1 ≤ k → ∀ g : Int, g = gpV (prS N p) k → X 4 [rV 13 54, lV g, uV, iV (k : Int)] [] (fmF σ N p (N 1)) := by
          refine loop_up (P := fun k => 1 ≤ k → ∀ g : Int, g = gpV (prS N p) k → X 4 [rV 13 54, lV g, uV, iV (k : Int)] [] (fmF σ N p (N 1))) ?_ ?_
          · intro _ g hg
            refine bX4_widest_4 hC ?_
            rw [hc54, if_neg (by omega), hg]
            exact hr
          · intro k hk ih h1 g hg
            refine bX4_widest_4 hC ?_
            have h1a := ctX4_at (d := 5) (k := k) (by decide) hc54 hm hk
            have h1b := ctX4_at (d := 5) (k := k - 1) (by decide) hc54 hm (by omega)
            rw [q55 k hk] at h1a
            rw [q55 (k - 1) (by omega)] at h1b
            rw [hc54, if_pos (by omega), w_km (by omega) (by omega)]
            refine ⟨_, h1a, _, h1b, ?_⟩
            rw [w32_s (by omega)]
            exact ih (by omega) _ (by rw [gpV_s _ (show k ≠ 0 by omega), hg])
        exact key 1 (by omega) (Nat.le_refl 1) 0 rfl
      exact ⟨_, hw, hr⟩
    · intro τ ha
      have hM0 := RowM_c hQ.2.1 fmF_fr ha
      have hM1 : RowM (upS τ 66 5 0) 67 0 N := RowM_ups hM0 (by decide)
      have hpe := pr_eq hW (p := p)
      have hlp := ctX11_laysPrices (d := 6) (by decide) hW hp5 hM1
      rw [← hmd] at hlp hpe
      obtain ⟨υ, hυ⟩ : ∃ υ, υ = rP (upS τ 66 5 0) m (isF (lR N p (N 1)) m) := ⟨_, rfl⟩
      rw [← hυ] at hlp
      have u20 : υ 66 20 = (m : Int) := by rw [hυ]; exact rP_n
      have u74 : ∀ k, k < m → υ 74 k = (prS N p k : Int) := fun k hk => by rw [hυ, rP_k hk, hpe k hk]
      have hfr : FrR τ υ := by rw [hυ]; exact (th_r (FrR.refl τ)).trans rP_fr
      have u5 : υ 66 5 = 0 := by rw [hυ, rP_66 (by decide)]; exact ups_eq
      have hMu : RowM υ 67 0 N := by rw [hυ]; exact RowM_cell hM1 (rP_cell (by decide) (by decide))
      clear hυ
      refine ⟨υ, ?_, u5, wr_end hI fmF_fr hRf ha hfr hMu hW⟩
      refine (eX11_gap (d := 6) ?_).mono (by decide)
      intro X Xr Xt hC hr
      refine bX11_gap_0 hC ?_
      refine ⟨_, ctX11_isP (by decide) h5 hM1 h, ?_⟩
      rw [if_neg (by decide)]
      refine ⟨_, hlp, ?_⟩
      have key : ∀ k, k ≤ m → 1 ≤ k → ∀ g : Int, g = gpV (prS N p) k → X 31 [rV 20 66, iV (p : Int), lV g, uV, iV (k : Int)] [] υ := by
        refine loop_up (P := fun k => 1 ≤ k → ∀ g : Int, g = gpV (prS N p) k → X 31 [rV 20 66, iV (p : Int), lV g, uV, iV (k : Int)] [] υ) ?_ ?_
        · intro _ g hg
          refine bX11_gap_31 hC ?_
          rw [u20, if_neg (by omega), hg]
          exact hr
        · intro k hk ih h1 g hg
          refine bX11_gap_31 hC ?_
          rw [u20, if_pos (by omega), w_km (by omega) (by omega), Int.toNat_natCast, Int.toNat_natCast, u74 k hk, u74 (k - 1) (by omega), w32_s (by omega)]
          exact ⟨by omega, by omega, ih (by omega) _ (by rw [gpV_s _ (show k ≠ 0 by omega), hg])⟩
      exact key 1 (by omega) (Nat.le_refl 1) 0 rfl
  · refine Or.inr ⟨1, σ, by decide, ?_, ?_⟩
    · refine (eX10_gap (d := 6) ?_).mono (by decide)
      intro X Xr Xt hC hr
      refine bX10_gap_0 hC ?_
      exact Or.inr ⟨_, ctX10_needPerson_no (by decide) hQ.1 h, hr⟩
    · intro τ ha
      have hM0 := (InvN_ag hQ ha).2.1
      have hM : ∀ v, RowM (upS τ 66 5 v) 67 0 N := fun v => RowM_ups hM0 (by decide)
      refine ⟨0, upS (upS τ 66 5 0) 66 5 1, ?_, ups_eq, Inv_fr hI ((th_fr ha).ups66 (by decide) (by decide) (by decide))⟩
      refine (eX11_gap (d := 6) ?_).mono (by decide)
      intro X Xr Xt hC hr
      refine bX11_gap_0 hC ?_
      refine ⟨_, ctX11_isP_no (by decide) h5 (hM 0) h, ?_⟩
      rw [if_pos (by decide)]
      exact ⟨_, _, ctX11_fails (by decide), hr⟩
def bwV (S : Nat → Nat) (lo hi : Int) (k : Nat) : Nat := sumN (fun i => if lo ≤ (S i : Int) ∧ (S i : Int) ≤ hi then 1 else 0) k
theorem bwV_s (S : Nat → Nat) (lo hi : Int) (k : Nat) : bwV S lo hi (k + 1) = bwV S lo hi k + (if lo ≤ (S k : Int) ∧ (S k : Int) ≤ hi then 1 else 0) := rfl
theorem bwV_le (S : Nat → Nat) (lo hi : Int) (k : Nat) : bwV S lo hi k ≤ k * 1 := sumN_bound (fun i _ => by split <;> omega)
theorem jt_between {ω : Nat → Int} {σ : Sg} (hI : Inv ω σ) (x : Int) (y z : Int) : Jt ω MX10_between MX11_between [iV x, lV y, lV z] iV cdN σ := by
  obtain ⟨N, hQ⟩ := hI.1
  have hW := hQ.2.2
  have h5 := hW.1.2.1
  have h8 := hW.1.1
  by_cases h : 0 ≤ x ∧ x < N 2
  · obtain ⟨p, hp⟩ := z_nat h.1
    subst hp
    have hp5 : p < 5 := by omega
    obtain ⟨z1, z2, z3⟩ := prS_ok hW hp5
    have hm := fM_le hW hp5 h8
    have hm0 := fM_pos N p (N 1)
    have hfm := fmF_ok (σ := σ) (N := N) (p := p) (N 1)
    have hRf := fmF_row (p := p) (c := N 1) hQ.1
    have q55 : ∀ k, k < fM N p (N 1) → fmF σ N p (N 1) 55 k = (prS N p k : Int) := hfm.2.1
    obtain ⟨m, hmd⟩ : ∃ m, m = fM N p (N 1) := ⟨_, rfl⟩
    have hc54 := hfm.1
    rw [← hmd] at z1 z2 hm hm0 hc54 q55
    have hat : ∀ k, k < m → Ct 6 MX4_at [rV 13 54, iV (k : Int)] (fmF σ N p (N 1)) (.inl [lV (prS N p k : Int)]) (fmF σ N p (N 1)) := fun k hk => by
      have := ctX4_at (d := 6) (k := k) (by decide) hc54 hm hk
      rw [q55 k hk] at this
      exact this
    refine Or.inl ⟨(bwV (prS N p) y z m : Int), fmF σ N p (N 1), ?_, ?_⟩
    · refine (eX10_between (d := 6) ?_).mono (by decide)
      intro X Xr Xt hC hr
      refine bX10_between_0 hC ?_
      refine Or.inl ⟨ctX10_needPerson (by decide) hQ.1 h, _, ctX4_fill (by decide) hW hp5 hQ.1, ?_⟩
      have hw : Ct 6 MX4_within [rV 13 54, lV y, lV z] (fmF σ N p (N 1)) (.inl [iV (bwV (prS N p) y z m : Int)]) (fmF σ N p (N 1)) := by
        refine (eX4_within (d := 5) ?_).mono (by decide)
        intro X Xr Xt hC hr
        refine bX4_within_0 hC ?_
        have key : ∀ k, k ≤ m → ∀ g : Nat, g = bwV (prS N p) y z k → X 6 [rV 13 54, lV y, uV, lV z, uV, iV (g : Int), iV (k : Int)] [] (fmF σ N p (N 1)) := by
          refine loop_up (P := fun k => ∀ g : Nat, g = bwV (prS N p) y z k → X 6 [rV 13 54, lV y, uV, lV z, uV, iV (g : Int), iV (k : Int)] [] (fmF σ N p (N 1))) ?_ ?_
          · intro g hg
            refine bX4_within_6 hC ?_
            rw [hc54, if_neg (by omega), hg]
            exact hr
          · intro k hk ih g hg
            refine bX4_within_6 hC ?_
            have h1a := ctX4_at (d := 5) (k := k) (by decide) hc54 hm hk
            rw [q55 k hk] at h1a
            have hb := bwV_le (prS N p) y z k
            have hs := bwV_s (prS N p) y z k
            rw [hc54, if_pos (by omega)]
            refine ⟨_, h1a, ?_⟩
            rw [w32_s (show k < 2147483647 by omega)]
            by_cases q1 : (prS N p k : Int) < y
            · rw [if_neg (by omega)] at hs
              rw [if_pos q1]
              exact ih _ (by omega)
            rw [if_neg q1]
            refine ⟨_, h1a, ?_⟩
            by_cases q2 : z < (prS N p k : Int)
            · rw [if_neg (by omega)] at hs
              rw [if_pos q2]
              exact ih _ (by omega)
            · rw [if_pos ⟨by omega, by omega⟩] at hs
              rw [if_neg q2, w32_s (by omega)]
              exact ih _ (by omega)
        exact key 0 (Nat.zero_le _) 0 rfl
      exact ⟨_, hw, hr⟩
    · intro τ ha
      have hM0 := RowM_c hQ.2.1 fmF_fr ha
      have hM1 : RowM (upS τ 66 5 0) 67 0 N := RowM_ups hM0 (by decide)
      have hpe := pr_eq hW (p := p)
      have hlp := ctX11_laysPrices (d := 6) (by decide) hW hp5 hM1
      rw [← hmd] at hlp hpe
      obtain ⟨υ, hυ⟩ : ∃ υ, υ = rP (upS τ 66 5 0) m (isF (lR N p (N 1)) m) := ⟨_, rfl⟩
      rw [← hυ] at hlp
      have u20 : υ 66 20 = (m : Int) := by rw [hυ]; exact rP_n
      have u74 : ∀ k, k < m → υ 74 k = (prS N p k : Int) := fun k hk => by rw [hυ, rP_k hk, hpe k hk]
      have hfr : FrR τ υ := by rw [hυ]; exact (th_r (FrR.refl τ)).trans rP_fr
      have u5 : υ 66 5 = 0 := by rw [hυ, rP_66 (by decide)]; exact ups_eq
      have hMu : RowM υ 67 0 N := by rw [hυ]; exact RowM_cell hM1 (rP_cell (by decide) (by decide))
      clear hυ
      refine ⟨υ, ?_, u5, wr_end hI fmF_fr hRf ha hfr hMu hW⟩
      refine (eX11_between (d := 6) ?_).mono (by decide)
      intro X Xr Xt hC hr
      refine bX11_between_0 hC ?_
      refine ⟨_, ctX11_isP (by decide) h5 hM1 h, ?_⟩
      rw [if_neg (by decide)]
      refine ⟨_, hlp, ?_⟩
      have key : ∀ k, k ≤ m → ∀ g : Nat, g = bwV (prS N p) y z k → X 31 [rV 20 66, iV (p : Int), lV y, uV, lV z, uV, iV (g : Int), iV (k : Int)] [] υ := by
        refine loop_up (P := fun k => ∀ g : Nat, g = bwV (prS N p) y z k → X 31 [rV 20 66, iV (p : Int), lV y, uV, lV z, uV, iV (g : Int), iV (k : Int)] [] υ) ?_ ?_
        · intro g hg
          refine bX11_between_31 hC ?_
          rw [u20, if_neg (by omega), hg]
          exact hr
        · intro k hk ih g hg
          have hb := bwV_le (prS N p) y z k
          have hs := bwV_s (prS N p) y z k
          refine bX11_between_31 hC ?_
          rw [u20, if_pos (by omega), Int.toNat_natCast, u74 k hk, w32_s (show k < 2147483647 by omega), w32_s (show g < 2147483647 by omega)]
          refine ⟨by omega, ?_⟩
          by_cases q1 : y ≤ (prS N p k : Int) ∧ (prS N p k : Int) ≤ z
          · rw [if_pos q1] at hs
            refine ⟨_, ctX11_wi (by decide) q1, ?_⟩
            rw [if_neg (by decide)]
            exact ih _ (by omega)
          · rw [if_neg q1] at hs
            refine ⟨_, ctX11_wi_no (by decide) q1, ?_⟩
            rw [if_pos (by decide), show w32 ((g : Int) + 0) = (g : Int) by rw [Int.add_zero]; exact w32_n (by omega)]
            exact ih _ (by omega)
      exact key 0 (Nat.zero_le _) 0 rfl
  · refine Or.inr ⟨1, σ, by decide, ?_, ?_⟩
    · refine (eX10_between (d := 6) ?_).mono (by decide)
      intro X Xr Xt hC hr
      refine bX10_between_0 hC ?_
      exact Or.inr ⟨_, ctX10_needPerson_no (by decide) hQ.1 h, hr⟩
    · intro τ ha
      have hM0 := (InvN_ag hQ ha).2.1
      have hM : ∀ v, RowM (upS τ 66 5 v) 67 0 N := fun v => RowM_ups hM0 (by decide)
      refine ⟨0, upS (upS τ 66 5 0) 66 5 1, ?_, ups_eq, Inv_fr hI ((th_fr ha).ups66 (by decide) (by decide) (by decide))⟩
      refine (eX11_between (d := 6) ?_).mono (by decide)
      intro X Xr Xt hC hr
      refine bX11_between_0 hC ?_
      refine ⟨_, ctX11_isP_no (by decide) h5 (hM 0) h, ?_⟩
      rw [if_pos (by decide)]
      exact ⟨_, _, ctX11_fails (by decide), hr⟩
def hfV (S : Nat → Nat) (w : Nat) : Nat → Nat
  | 0 => 1
  | k + 1 => if w / S k < S k then hfV S w k else S k
theorem hfV_s (S : Nat → Nat) (w k : Nat) : hfV S w (k + 1) = if w / S k < S k then hfV S w k else S k := rfl
theorem jt_half {ω : Nat → Int} {σ : Sg} (hI : Inv ω σ) (x : Int) : Jt ω MX10_half MX11_half [iV x] lV cdN σ := by
  obtain ⟨N, hQ⟩ := hI.1
  have hW := hQ.2.2
  have h5 := hW.1.2.1
  have h8 := hW.1.1
  by_cases h : 0 ≤ x ∧ x < N 2
  · obtain ⟨p, hp⟩ := z_nat h.1
    subst hp
    have hp5 : p < 5 := by omega
    obtain ⟨z1, z2, z3⟩ := prS_ok hW hp5
    have hm := fM_le hW hp5 h8
    have hm0 := fM_pos N p (N 1)
    have hfm := fmF_ok (σ := σ) (N := N) (p := p) (N 1)
    have hRf := fmF_row (p := p) (c := N 1) hQ.1
    have q55 : ∀ k, k < fM N p (N 1) → fmF σ N p (N 1) 55 k = (prS N p k : Int) := hfm.2.1
    obtain ⟨m, hmd⟩ : ∃ m, m = fM N p (N 1) := ⟨_, rfl⟩
    have hc54 := hfm.1
    rw [← hmd] at z1 z2 hm hm0 hc54 q55
    have hat : ∀ k, k < m → Ct 6 MX4_at [rV 13 54, iV (k : Int)] (fmF σ N p (N 1)) (.inl [lV (prS N p k : Int)]) (fmF σ N p (N 1)) := fun k hk => by
      have := ctX4_at (d := 6) (k := k) (by decide) hc54 hm hk
      rw [q55 k hk] at this
      exact this
    refine Or.inl ⟨(hfV (prS N p) (wN N p) m : Int), fmF σ N p (N 1), ?_, ?_⟩
    · refine (eX10_half (d := 6) ?_).mono (by decide)
      intro X Xr Xt hC hr
      refine bX10_half_0 hC ?_
      refine Or.inl ⟨ctX10_needPerson (by decide) hQ.1 h, _, ctX4_fill (by decide) hW hp5 hQ.1, ?_⟩
      have hf1 : hfV (prS N p) (wN N p) 1 = 1 := by rw [hfV_s]; split; rfl; exact z3
      have hw : Ct 6 MX4_rootOf [rV 13 54, lV (wN N p : Int)] (fmF σ N p (N 1)) (.inl [lV (hfV (prS N p) (wN N p) m : Int)]) (fmF σ N p (N 1)) := by
        refine (eX4_rootOf (d := 5) ?_).mono (by decide)
        intro X Xr Xt hC hr
        refine bX4_rootOf_0 hC ?_
        have key : ∀ k, k ≤ m → ∀ g : Nat, g = hfV (prS N p) (wN N p) k → 1 ≤ k → X 5 [rV 13 54, lV (wN N p : Int), uV, lV (g : Int), uV, iV (k : Int)] [] (fmF σ N p (N 1)) := by
          refine loop_up (P := fun k => ∀ g : Nat, g = hfV (prS N p) (wN N p) k → 1 ≤ k → X 5 [rV 13 54, lV (wN N p : Int), uV, lV (g : Int), uV, iV (k : Int)] [] (fmF σ N p (N 1))) ?_ ?_
          · intro g hg _
            refine bX4_rootOf_5 hC ?_
            rw [hc54, if_neg (by omega), hg]
            exact hr
          · intro k hk ih g hg h1
            refine bX4_rootOf_5 hC ?_
            have h1a := ctX4_at (d := 5) (k := k) (by decide) hc54 hm hk
            rw [q55 k hk] at h1a
            have hz := z2 k hk
            have hs := hfV_s (prS N p) (wN N p) k
            have hd2 := Nat.div_le_self (wN N p) (prS N p k)
            have hwl := wN_le hW hp5
            rw [hc54, if_pos (by omega)]
            refine ⟨_, h1a, ?_⟩
            rw [if_pos (by omega)]
            refine ⟨_, h1a, _, h1a, by omega, ?_⟩
            rw [tdiv_nat, w64_n (Nat.lt_of_le_of_lt (Nat.le_trans hd2 hwl) (by decide)), w32_s (by omega)]
            by_cases q1 : wN N p / prS N p k < prS N p k
            · rw [if_pos q1] at hs
              rw [if_pos (Int.ofNat_lt.mpr q1)]
              exact ih _ (by rw [hs]; exact hg) (by omega)
            · rw [if_neg q1] at hs
              rw [if_neg (fun z => q1 (Int.ofNat_lt.mp z))]
              exact ⟨_, h1a, ih _ hs.symm (by omega)⟩
        exact key 1 (by omega) 1 hf1.symm (Nat.le_refl 1)
      exact ⟨_, ctX8_worthOf (by decide) hW hp5 hRf, _, hw, hr⟩
    · intro τ ha
      have hM0 := RowM_c hQ.2.1 fmF_fr ha
      have hM1 : RowM (upS τ 66 5 0) 67 0 N := RowM_ups hM0 (by decide)
      have hpe := pr_eq hW (p := p)
      have hlp := ctX11_laysPrices (d := 6) (by decide) hW hp5 hM1
      rw [← hmd] at hlp hpe
      obtain ⟨υ, hυ⟩ : ∃ υ, υ = rP (upS τ 66 5 0) m (isF (lR N p (N 1)) m) := ⟨_, rfl⟩
      rw [← hυ] at hlp
      have u20 : υ 66 20 = (m : Int) := by rw [hυ]; exact rP_n
      have u74 : ∀ k, k < m → υ 74 k = (prS N p k : Int) := fun k hk => by rw [hυ, rP_k hk, hpe k hk]
      have hfr : FrR τ υ := by rw [hυ]; exact (th_r (FrR.refl τ)).trans rP_fr
      have u5 : υ 66 5 = 0 := by rw [hυ, rP_66 (by decide)]; exact ups_eq
      have hMu : RowM υ 67 0 N := by rw [hυ]; exact RowM_cell hM1 (rP_cell (by decide) (by decide))
      clear hυ
      refine ⟨υ, ?_, u5, wr_end hI fmF_fr hRf ha hfr hMu hW⟩
      refine (eX11_half (d := 6) ?_).mono (by decide)
      intro X Xr Xt hC hr
      refine bX11_half_0 hC ?_
      refine ⟨_, ctX11_isP (by decide) h5 hM1 h, ?_⟩
      rw [if_neg (by decide)]
      refine ⟨_, hlp, ?_⟩
      refine ⟨_, ctX11_worthOf (by decide) hp5 hW hMu, ?_⟩
      have key : ∀ k, k ≤ m → ∀ g : Nat, g = hfV (prS N p) (wN N p) k → X 38 [rV 20 66, iV (p : Int), lV (wN N p : Int), uV, lV (g : Int), uV, iV (k : Int)] [] υ := by
        refine loop_up (P := fun k => ∀ g : Nat, g = hfV (prS N p) (wN N p) k → X 38 [rV 20 66, iV (p : Int), lV (wN N p : Int), uV, lV (g : Int), uV, iV (k : Int)] [] υ) ?_ ?_
        · intro g hg
          refine bX11_half_38 hC ?_
          rw [u20, if_neg (by omega), hg]
          exact hr
        · intro k hk ih g hg
          refine bX11_half_38 hC ?_
          have hz := z2 k hk
          have hs := hfV_s (prS N p) (wN N p) k
          have hd2 := Nat.div_le_self (wN N p) (prS N p k)
          have hwl := wN_le hW hp5
          rw [u20, if_pos (by omega), Int.toNat_natCast, u74 k hk, tdiv_nat, w64_n (Nat.lt_of_le_of_lt (Nat.le_trans hd2 hwl) (by decide)), w32_s (by omega)]
          refine ⟨by omega, by omega, by omega, ?_⟩
          by_cases q1 : wN N p / prS N p k < prS N p k
          · rw [if_pos q1] at hs
            rw [if_pos (Int.ofNat_lt.mpr q1)]
            exact ih _ (by rw [hs]; exact hg)
          · rw [if_neg q1] at hs
            rw [if_neg (fun z => q1 (Int.ofNat_lt.mp z))]
            exact ⟨by omega, ih _ hs.symm⟩
      exact key 0 (Nat.zero_le _) 1 rfl
  · refine Or.inr ⟨1, σ, by decide, ?_, ?_⟩
    · refine (eX10_half (d := 6) ?_).mono (by decide)
      intro X Xr Xt hC hr
      refine bX10_half_0 hC ?_
      exact Or.inr ⟨_, ctX10_needPerson_no (by decide) hQ.1 h, hr⟩
    · intro τ ha
      have hM0 := (InvN_ag hQ ha).2.1
      have hM : ∀ v, RowM (upS τ 66 5 v) 67 0 N := fun v => RowM_ups hM0 (by decide)
      refine ⟨0, upS (upS τ 66 5 0) 66 5 1, ?_, ups_eq, Inv_fr hI ((th_fr ha).ups66 (by decide) (by decide) (by decide))⟩
      refine (eX11_half (d := 6) ?_).mono (by decide)
      intro X Xr Xt hC hr
      refine bX11_half_0 hC ?_
      refine ⟨_, ctX11_isP_no (by decide) h5 (hM 0) h, ?_⟩
      rw [if_pos (by decide)]
      exact ⟨_, _, ctX11_fails (by decide), hr⟩
