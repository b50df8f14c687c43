/-! PAIRS: strike, tax, changes -/
theorem sumN_upd {f : Nat → Nat} {c v : Nat} : ∀ n, c < n → sumN (fun i => if i = c then v else f i) n + f c = sumN f n + v := by
  intro n
  induction n with
  | zero => intro h; exact absurd h (Nat.not_lt_zero c)
  | succ n ih =>
    intro h
    rw [sumN_s, sumN_s]
    by_cases e : c = n
    · have e2 : sumN (fun i => if i = c then v else f i) n = sumN f n := sumN_congr (fun i hi => by show (if i = c then v else f i) = f i; rw [if_neg (by omega)])
      rw [e2]
      show sumN f n + (if n = c then v else f n) + f c = _
      rw [if_pos e.symm, e]
      omega
    · have := ih (by omega)
      show sumN (fun i => if i = c then v else f i) n + (if n = c then v else f n) + f c = _
      rw [if_neg (fun q => e q.symm)]
      omega
theorem hN_upd {N : Tn} {p c v r e : Nat} (hc : c < 8) (he : e < 8) : hN (updN N (12 + (8 * p + c)) v) r e = if r = p ∧ e = c then v else hN N r e := by
  unfold hN updN
  by_cases q : r = p ∧ e = c
  · rw [if_pos q, if_pos (by omega)]
  · rw [if_neg q, if_neg (by omega)]
theorem WFN_hold {N : Tn} {p c v : Nat} (hW : WFN N) (hp : p < N 2) (hc : c < N 1) (hs : mN N p + v ≤ 9 + hN N p c) : WFN (updN N (12 + (8 * p + c)) v) := by
  have h5 := hW.1.2.1
  have h8 := hW.1.1
  refine WFN_purse hW (fun j hj => updN_ne (by omega)) ?_ ?_ ?_
  · intro r hr
    by_cases e : r = p
    · rw [e, sumN_congr (g := fun i => if i = c then v else hN N p i) (fun i hi => by
        rw [hN_upd (by omega) hi]
        by_cases q : i = c
        · rw [if_pos ⟨rfl, q⟩, if_pos q]
        · rw [if_neg (fun z => q z.2), if_neg q])]
      have := sumN_upd (f := hN N p) (c := c) (v := v) 8 (by omega)
      rw [mN_8 hW (by omega)] at hs
      omega
    · rw [sumN_congr (fun i hi => by rw [hN_upd (by omega) hi, if_neg (fun z => e z.1)])]
      exact hW.2.2.2.1 r hr
  · intro r i hr hi hh
    rw [hN_upd (by omega) hi, if_neg (by omega)]
    exact hW.2.2.2.2.1 r i hr hi hh
  · intro i hi
    rw [updN_ne (by omega)]
    exact hW.2.2.2.2.2.2.2.1 i hi
theorem WFN_keep {N : Tn} {c v : Nat} (hW : WFN N) (hc : c < N 1) (hv : v ≤ 999) : WFN (updN N (148 + c) v) := by
  have h5 := hW.1.2.1
  have h8 := hW.1.1
  have eh : ∀ r, r < 5 → ∀ i, i < 8 → hN (updN N (148 + c) v) r i = hN N r i := fun r hr i hi => updN_ne (by omega)
  refine WFN_purse hW (fun j hj => updN_ne (by omega)) ?_ ?_ ?_
  · intro r hr; rw [sumN_congr (eh r hr)]; exact hW.2.2.2.1 r hr
  · intro r i hr hi hh; rw [eh r hr i hi]; exact hW.2.2.2.2.1 r i hr hi hh
  · intro i hi
    by_cases e : i = c
    · rw [e, updN_eq]; exact ⟨hv, fun q => by omega⟩
    · rw [updN_ne (by omega)]; exact hW.2.2.2.2.2.2.2.1 i hi
theorem mN_upd {N : Tn} {p c : Nat} (hW : WFN N) (hp : p < N 2) (hc : c < N 1) (h9 : mN N p < 9) : mN (updN N (12 + (8 * p + c)) (hN N p c + 1)) p = mN N p + 1 := by
  have h5 := hW.1.2.1
  have h8 := hW.1.1
  have hWM := WFN_hold hW hp hc (v := hN N p c + 1) (by omega)
  rw [mN_8 hWM (by omega), mN_8 hW (by omega), sumN_congr (g := fun i => if i = c then hN N p c + 1 else hN N p i) (fun i hi => by
    rw [hN_upd (by omega) hi]
    by_cases q : i = c
    · rw [if_pos ⟨rfl, q⟩, if_pos q]
    · rw [if_neg (fun z => q z.2), if_neg q])]
  have := sumN_upd (f := hN N p) (c := c) (v := hN N p c + 1) 8 (by omega)
  omega
theorem up_hold {τ : Sg} {N : Tn} {p c v : Nat} (hp : p < 5) (hc : c < 8) (hM : RowM τ 67 0 N) : upS τ 67 (12 + (8 * p + c)) (v : Int) = rwS τ 67 0 (updN N (12 + (8 * p + c)) v) := by rw [← rwS_up (by omega), rwS_id hM]
theorem rd_hold {τ : Sg} {N : Tn} {p c : Nat} (hp : p < 5) (hc : c < 8) (hM : RowM τ 67 0 N) : τ 67 (12 + (8 * p + c)) = (hN N p c : Int) := by
  rw [rwm0 hM (by omega)]
  unfold hN
  rw [Nat.add_assoc]
theorem jt_strike {ω : Nat → Int} {σ : Sg} (hI : Inv ω σ) (x y : Int) : Jt ω MX10_strike MX11_strike [iV x, iV y] iV cdD σ := by
  obtain ⟨N, hQ⟩ := hI.1
  have hW := hQ.2.2
  have h5 := hW.1.2.1
  have h8 := hW.1.1
  have hnr := nrN_rng N y
  have hcl : Ct 6 MX8_numberOf [rV 17 7, iV y] σ (.inl [iV (nrN N y)]) σ := ctX8_numberOf (by decide) h8 (hQ.1.1 1 (by omega)) hQ.1.2.2.1
  by_cases h : 0 ≤ x ∧ x < N 2
  · by_cases c0 : nrN N y = -1
    · refine Or.inr ⟨2, σ, by decide, ?_, ?_⟩
      · refine (eX10_strike (d := 6) ?_).mono (by decide)
        intro X Xr Xt hC hr
        refine bX10_strike_0 hC ?_
        refine Or.inl ⟨ctX10_needPerson (by decide) hQ.1 h, _, hcl, ?_⟩
        rw [if_pos c0]
        exact hr
      · intro τ ha
        have hM0 := (InvN_ag hQ ha).2.1
        have hM : ∀ v, RowM (upS τ 66 5 v) 67 0 N := fun v => RowM_ups hM0 (by decide)
        refine ⟨0, upS τ 66 5 2, ?_, ups_eq, Inv_fr hI (th_fr ha)⟩
        refine (eX11_strike (d := 6) ?_).mono (by decide)
        intro X Xr Xt hC hr
        refine bX11_strike_0 hC ?_
        refine ⟨_, ctX11_coinOf (by decide) h8 hM0, _, ctX11_isP (by decide) h5 hM0 h, ?_⟩
        rw [if_neg (by decide), if_pos c0, ups_eq, if_pos (by decide)]
        exact hr
    · obtain ⟨c, hc2⟩ := z_nat (show 0 ≤ nrN N y by omega)
      obtain ⟨p, hp⟩ := z_nat h.1
      subst hp
      have hp2 : p < N 2 := by omega
      have hc1 : c < N 1 := by omega
      have hm9 := mN_le hW (show p < 5 by omega)
      have hh9 := hN_le hW (show p < 5 by omega) (show c < 8 by omega)
      by_cases f : mN N p = 9
      · refine Or.inr ⟨3, σ, by decide, ?_, ?_⟩
        · refine (eX10_strike (d := 6) ?_).mono (by decide)
          intro X Xr Xt hC hr
          refine bX10_strike_0 hC ?_
          refine Or.inl ⟨ctX10_needPerson (by decide) hQ.1 h, _, hcl, ?_⟩
          rw [if_neg c0]
          refine ⟨_, ctX8_many (by decide) hW (by omega) hQ.1, ?_⟩
          rw [if_neg (by omega)]
          exact hr
        · intro τ ha
          have hM0 := (InvN_ag hQ ha).2.1
          have hM : ∀ v, RowM (upS τ 66 5 v) 67 0 N := fun v => RowM_ups hM0 (by decide)
          refine ⟨0, upS τ 66 5 3, ?_, ups_eq, Inv_fr hI (th_fr ha)⟩
          refine (eX11_strike (d := 6) ?_).mono (by decide)
          intro X Xr Xt hC hr
          refine bX11_strike_0 hC ?_
          refine ⟨_, ctX11_coinOf (by decide) h8 hM0, _, ctX11_isP (by decide) h5 hM0 h, ?_⟩
          rw [if_neg (by decide), if_neg c0]
          refine ⟨_, ctX11_size (by decide) (by omega) hW hM0, ?_⟩
          rw [if_pos (by omega), ups_eq, if_pos (by decide)]
          exact hr
      · have hWM := WFN_hold hW hp2 hc1 (v := hN N p c + 1) (by omega)
        have hmu := mN_upd hW hp2 hc1 (by omega)
        refine Or.inl ⟨((mN N p + 1 : Nat) : Int), tnS σ 7 (updN N (12 + (8 * p + c)) (hN N p c + 1)), ?_, ?_⟩
        · refine (eX10_strike (d := 6) ?_).mono (by decide)
          intro X Xr Xt hC hr
          refine bX10_strike_0 hC ?_
          refine Or.inl ⟨ctX10_needPerson (by decide) hQ.1 h, _, hcl, ?_⟩
          rw [if_neg c0]
          refine ⟨_, ctX8_many (by decide) hW (by omega) hQ.1, ?_⟩
          rw [if_pos (by omega), hc2]
          have hcm := ctX8_come (d := 6) (p := p) (c := c) (t := 7) (z := 1) (M := N) (σ := σ) (v := hN N p c + 1) (by decide) (by omega) (by omega) (by omega) (by omega)
          rw [tnS_id hQ.1] at hcm
          refine ⟨_, hcm, _, ctX8_many (by decide) hWM (by omega) (tnS_row _ _ _), ?_⟩
          rw [hmu]
          exact hr
        · intro τ ha
          have hcf := (FrC.refl σ).tn (M := updN N (12 + (8 * p + c)) (hN N p c + 1))
          have hM0 := RowM_c hQ.2.1 hcf ha
          have hM1 : RowM (upS τ 66 5 0) 67 0 N := RowM_ups hM0 (by decide)
          refine ⟨rwS (upS τ 66 5 0) 67 0 (updN N (12 + (8 * p + c)) (hN N p c + 1)), ?_, by rw [rwS_cell (by decide)]; exact ups_eq, wr_end hI hcf (tnS_row _ _ _) ha (th_r (FrR.refl τ)).rw67 (rwS_row _ _ _ _) hWM⟩
          refine (eX11_strike (d := 6) ?_).mono (by decide)
          intro X Xr Xt hC hr
          refine bX11_strike_0 hC ?_
          refine ⟨_, ctX11_coinOf (by decide) h8 hM0, _, ctX11_isP (by decide) h5 hM0 h, ?_⟩
          rw [if_neg (by decide), if_neg c0]
          refine ⟨_, ctX11_size (by decide) (by omega) hW hM0, ?_⟩
          rw [if_neg (by omega), ups_eq, if_neg (by decide), hc2, w_hold (by omega) (by omega), Int.toNat_natCast, rd_hold (by omega) (by omega) hM1, w32_s (by omega), up_hold (by omega) (by omega) hM1]
          refine ⟨by omega, by omega, _, ctX11_size (by decide) (by omega) hWM (rwS_row _ _ _ _), ?_⟩
          rw [hmu]
          exact hr
  · refine Or.inr ⟨1, σ, by decide, ?_, ?_⟩
    · refine (eX10_strike (d := 6) ?_).mono (by decide)
      intro X Xr Xt hC hr
      refine bX10_strike_0 hC ?_
      exact Or.inr ⟨_, ctX10_needPerson_no (by decide) hQ.1 h, hr⟩
    · intro τ ha
      have hM0 := (InvN_ag hQ ha).2.1
      have hM : ∀ v, RowM (upS τ 66 5 v) 67 0 N := fun v => RowM_ups hM0 (by decide)
      refine ⟨0, upS τ 66 5 1, ?_, ups_eq, Inv_fr hI (th_fr ha)⟩
      refine (eX11_strike (d := 6) ?_).mono (by decide)
      intro X Xr Xt hC hr
      refine bX11_strike_0 hC ?_
      refine ⟨_, ctX11_coinOf (by decide) h8 hM0, _, ctX11_isP_no (by decide) h5 hM0 h, ?_⟩
      rw [if_pos (by decide), ups_eq, if_pos (by decide)]
      exact hr
/-! tax -/
def txN (N : Tn) (p c : Nat) : Tn := updN (updN N (12 + (8 * p + c)) (hN N p c - 1)) (148 + c) (min (N (148 + c) + 1) 999)
theorem txN_1 (N : Tn) (p c : Nat) : txN N p c 1 = N 1 := by unfold txN; rw [updN_ne (by omega), updN_ne (by omega)]
theorem txN_4 (N : Tn) {p c i : Nat} (hi : i < 8) : txN N p c (4 + i) = N (4 + i) := by unfold txN; rw [updN_ne (by omega), updN_ne (by omega)]
theorem txN_wf {N : Tn} {p c : Nat} (hW : WFN N) (hp : p < N 2) (hc : c < N 1) : WFN (txN N p c) := by
  have hm := mN_le hW (show p < 5 by have := hW.1.2.1; omega)
  have h1 := WFN_hold hW hp hc (v := hN N p c - 1) (by omega)
  have e1 : updN N (12 + (8 * p + c)) (hN N p c - 1) 1 = N 1 := updN_ne (by omega)
  exact WFN_keep h1 (by rw [e1]; exact hc) (Nat.min_le_right _ _)
theorem grN_pos {N : Tn} {p : Nat} : ∀ k, grN N p k = -1 ∨ 0 < hN N p (grN N p k).toNat := by
  intro k
  induction k with
  | zero => exact Or.inl rfl
  | succ k ih =>
    rw [grN_s]
    split
    · rename_i h
      split
      · exact Or.inr (by rw [Int.toNat_natCast]; exact h)
      · split
        · exact Or.inr (by rw [Int.toNat_natCast]; exact h)
        · exact ih
    · exact ih
theorem ctX8_taxOne_no {d p t : Nat} {N : Tn} (hd : 3 ≤ d) (hW : WFN N) (hp : p < 5) (hg : grN N p (N 1) = -1) {σ : Sg} (hR : RowT σ t N) : Ct d MX8_taxOne [rV 17 t, iV (p : Int)] σ (.inl [iV (-1)]) σ := by
  refine (eX8_taxOne (d := 2) ?_).mono hd
  intro X Xr Xt hC hr
  refine bX8_taxOne_0 hC ?_
  refine ⟨_, ctX8_greatestCoin (by decide) hW hp hR, ?_⟩
  rw [hg, if_pos (by decide)]
  exact hr
theorem ctX8_taxOne {d p c t : Nat} {N : Tn} (hd : 3 ≤ d) (hW : WFN N) (hp : p < N 2) (hg : grN N p (N 1) = (c : Int)) {σ : Sg} (hR : RowT σ t N) : Ct d MX8_taxOne [rV 17 t, iV (p : Int)] σ (.inl [iV (N (4 + c) : Int)]) (tnS σ t (txN N p c)) := by
  have h5 := hW.1.2.1
  have h8 := hW.1.1
  have hrg := grN_rng N p (N 1)
  have hps := grN_pos (N := N) (p := p) (N 1)
  rw [hg, Int.toNat_natCast] at hps
  have hh9 := hN_le hW (show p < 5 by omega) (show c < 8 by omega)
  have hk := (hW.2.2.2.2.2.2.2.1 c (by omega)).1
  refine (eX8_taxOne (d := 2) ?_).mono hd
  intro X Xr Xt hC hr
  refine bX8_taxOne_0 hC ?_
  refine ⟨_, ctX8_greatestCoin (by decide) hW (by omega) hR, ?_⟩
  rw [hg, if_neg (by omega), if_pos (by omega)]
  have hcm := ctX8_come (d := 2) (p := p) (c := c) (t := t) (z := -1) (M := N) (σ := σ) (v := hN N p c - 1) (by decide) (by omega) (by omega) (by omega) (by omega)
  rw [tnS_id hR] at hcm
  refine ⟨_, hcm, by omega, by omega, ?_⟩
  have e1 : updN N (12 + (8 * p + c)) (hN N p c - 1) (148 + c) = N (148 + c) := updN_ne (by omega)
  rw [Int.toNat_natCast, tnS_6 (by omega), e1, w32_s (by omega), show min ((N (148 + c) + 1 : Nat) : Int) 999 = ((min (N (148 + c) + 1) 999 : Nat) : Int) by omega, tnS_keep (by omega)]
  have hWM := txN_wf hW hp (show c < N 1 by omega)
  have := ctX8_primeOf (d := 2) (c := c) (N := txN N p c) (σ := tnS σ t (txN N p c)) (t := t) (by decide) hWM (by rw [txN_1]; omega) (tnS_row _ _ _)
  rw [txN_4 N (show c < 8 by omega)] at this
  exact ⟨_, this, hr⟩
theorem w_148 {c : Nat} (hc : c < 8) : w32 (148 + (c : Int)) = ((148 + c : Nat) : Int) := by unfold w32; omega
theorem ctX11_taxes {d p : Nat} {N : Tn} (hd : 2 ≤ d) (hW : WFN N) (hp : p < N 2) {σ : Sg} (hM : RowM σ 67 0 N) : Ct d MX11_taxes [rV 20 66, iV (p : Int)] σ (.inl [iV (grN N p (N 1))]) (if grN N p (N 1) = -1 then σ else rwS σ 67 0 (txN N p (grN N p (N 1)).toNat)) := by
  have h5 := hW.1.2.1
  have h8 := hW.1.1
  refine (eX11_taxes (d := 1) ?_).mono hd
  intro X Xr Xt hC hr
  refine bX11_taxes_0 hC ?_
  have key : ∀ k, k ≤ N 1 → ∀ x, x = grN N p k → X 4 [rV 20 66, iV (p : Int), iV x, iV (k : Int)] [] σ := by
    refine loop_up (P := fun k => ∀ x, x = grN N p k → X 4 [rV 20 66, iV (p : Int), iV x, iV (k : Int)] [] σ) ?_ ?_
    · intro x hx
      refine bX11_taxes_4 hC ?_
      refine ⟨_, ctX11_coins (by decide) hM, ?_⟩
      have hrg := grN_rng N p (N 1)
      have hps := grN_pos (N := N) (p := p) (N 1)
      rw [← hx] at hr hrg hps
      rw [if_neg (by omega)]
      by_cases a : x = -1
      · rw [if_pos a] at hr ⊢
        rw [a] at hr
        exact hr
      · rw [if_neg a] at hr ⊢
        obtain ⟨c, hc⟩ := z_nat (show 0 ≤ x by omega)
        subst hc
        rw [Int.toNat_natCast] at hr hps
        have hh9 := hN_le hW (show p < 5 by omega) (show c < 8 by omega)
        have hk := (hW.2.2.2.2.2.2.2.1 c (by omega)).1
        rw [w_hold (by omega) (by omega), w_148 (by omega), Int.toNat_natCast, Int.toNat_natCast, rd_hold (by omega) (by omega) hM, show w32 ((hN N p c : Int) - 1) = ((hN N p c - 1 : Nat) : Int) by unfold w32; omega, up_hold (by omega) (by omega) hM, rwm0 (rwS_row _ _ _ _) (by omega), updN_ne (show 148 + c ≠ 12 + (8 * p + c) by omega), w32_s (by omega), show min 999 ((N (148 + c) + 1 : Nat) : Int) = ((min (N (148 + c) + 1) 999 : Nat) : Int) by omega, rwS_up (by omega)]
        exact ⟨by omega, by omega, by omega, by omega, hr⟩
    · intro k hk ih x hx
      have hrg := grN_rng N p k
      rw [← hx] at hrg
      have ih := fun y hy => ih y (show y = _ by rw [grN_s]; exact hy)
      rw [← hx] at ih
      refine bX11_taxes_4 hC ?_
      refine ⟨_, ctX11_coins (by decide) hM, ?_⟩
      rw [if_pos (by omega)]
      refine ⟨_, ctX11_of (by decide) (by omega) (by omega) hM, ?_⟩
      rw [w32_s (by omega)]
      by_cases a1 : 0 < hN N p k
      · rw [if_pos (by omega)]
        rw [if_pos a1] at ih
        by_cases a2 : x = -1
        · rw [if_pos a2]
          rw [if_pos a2] at ih
          exact ih _ rfl
        · rw [if_neg a2]
          rw [if_neg a2] at ih
          refine ⟨_, ctX11_prime (by decide) (by omega) hM, _, ctX11_prime_z (by decide) (by omega) (by omega) hM, ?_⟩
          by_cases a3 : N (4 + x.toNat) < N (4 + k)
          · rw [if_pos (by omega)]
            rw [if_pos a3] at ih
            exact ih _ rfl
          · rw [if_neg (by omega)]
            rw [if_neg a3] at ih
            exact ih _ rfl
      · rw [if_neg (by omega)]
        rw [if_neg a1] at ih
        exact ih _ rfl
  exact key 0 (Nat.zero_le _) (-1) rfl
theorem jt_tax {ω : Nat → Int} {σ : Sg} (hI : Inv ω σ) (x : Int) : Jt ω MX10_tax MX11_tax [iV x] iV cdN σ := by
  obtain ⟨N, hQ⟩ := hI.1
  have hW := hQ.2.2
  have h5 := hW.1.2.1
  have h8 := hW.1.1
  by_cases h : 0 ≤ x ∧ x < N 2
  · obtain ⟨p, hp⟩ := z_nat h.1
    subst hp
    have hp2 : p < N 2 := by omega
    have hrg := grN_rng N p (N 1)
    by_cases c0 : grN N p (N 1) = -1
    · refine Or.inl ⟨-1, σ, ?_, ?_⟩
      · refine (eX10_tax (d := 5) ?_).mono (by decide)
        intro X Xr Xt hC hr
        refine bX10_tax_0 hC ?_
        exact Or.inl ⟨ctX10_needPerson (by decide) hQ.1 h, _, _, ctX8_taxOne_no (by decide) hW (by omega) c0 hQ.1, hr⟩
      · intro τ ha
        have hM0 := (InvN_ag hQ ha).2.1
        have hM : ∀ v, RowM (upS τ 66 5 v) 67 0 N := fun v => RowM_ups hM0 (by decide)
        refine ⟨upS τ 66 5 0, ?_, ups_eq, Inv_fr hI (th_fr ha)⟩
        refine (eX11_tax (d := 5) ?_).mono (by decide)
        intro X Xr Xt hC hr
        refine bX11_tax_0 hC ?_
        refine ⟨_, ctX11_isP (by decide) h5 (hM 0) h, ?_⟩
        rw [if_neg (by decide)]
        have := ctX11_taxes (d := 5) (p := p) (by decide) hW hp2 (hM 0)
        rw [c0, if_pos rfl] at this
        refine ⟨_, _, this, ?_⟩
        rw [if_pos rfl]
        exact hr
    · obtain ⟨c, hc2⟩ := z_nat (show 0 ≤ grN N p (N 1) by omega)
      have hc1 : c < N 1 := by omega
      have hWM := txN_wf hW hp2 hc1
      refine Or.inl ⟨(N (4 + c) : Int), tnS σ 7 (txN N p c), ?_, ?_⟩
      · refine (eX10_tax (d := 5) ?_).mono (by decide)
        intro X Xr Xt hC hr
        refine bX10_tax_0 hC ?_
        exact Or.inl ⟨ctX10_needPerson (by decide) hQ.1 h, _, _, ctX8_taxOne (by decide) hW hp2 hc2 hQ.1, hr⟩
      · intro τ ha
        have hcf := (FrC.refl σ).tn (M := txN N p c)
        have hM0 := RowM_c hQ.2.1 hcf ha
        have hM1 : RowM (upS τ 66 5 0) 67 0 N := RowM_ups hM0 (by decide)
        refine ⟨rwS (upS τ 66 5 0) 67 0 (txN N p c), ?_, by rw [rwS_cell (by decide)]; exact ups_eq, wr_end hI hcf (tnS_row _ _ _) ha (th_r (FrR.refl τ)).rw67 (rwS_row _ _ _ _) hWM⟩
        refine (eX11_tax (d := 5) ?_).mono (by decide)
        intro X Xr Xt hC hr
        refine bX11_tax_0 hC ?_
        refine ⟨_, ctX11_isP (by decide) h5 hM1 h, ?_⟩
        rw [if_neg (by decide)]
        have := ctX11_taxes (d := 5) (p := p) (by decide) hW hp2 hM1
        rw [hc2, if_neg (by omega), Int.toNat_natCast] at this
        refine ⟨_, _, this, ?_⟩
        rw [if_neg (by omega)]
        have hpr := ctX11_prime (d := 5) (c := c) (by decide) (by omega) (rwS_row (upS τ 66 5 0) 67 0 (txN N p c))
        rw [txN_4 N (show c < 8 by omega)] at hpr
        exact ⟨_, hpr, hr⟩
  · refine Or.inr ⟨1, σ, by decide, ?_, ?_⟩
    · refine (eX10_tax (d := 5) ?_).mono (by decide)
      intro X Xr Xt hC hr
      refine bX10_tax_0 hC ?_
      exact Or.inr ⟨_, ctX10_needPerson_no (by decide) hQ.1 h, hr⟩
    · intro τ ha
      have hM0 := (InvN_ag hQ ha).2.1
      have hM : ∀ v, RowM (upS τ 66 5 v) 67 0 N := fun v => RowM_ups hM0 (by decide)
      refine ⟨0, upS (upS τ 66 5 0) 66 5 1, ?_, ups_eq, Inv_fr hI ((th_fr ha).ups66 (by decide) (by decide) (by decide))⟩
      refine (eX11_tax (d := 5) ?_).mono (by decide)
      intro X Xr Xt hC hr
      refine bX11_tax_0 hC ?_
      refine ⟨_, ctX11_isP_no (by decide) h5 (hM 0) h, ?_⟩
      rw [if_pos (by decide)]
      exact ⟨_, _, ctX11_fails (by decide), hr⟩
/-! changes -/
def upH (N : Tn) (p : Nat) (g : Nat → Nat) (k : Nat) : Tn := fun j => if 12 + 8 * p ≤ j ∧ j < 12 + 8 * p + k then g (j - (12 + 8 * p)) else N j
theorem upH_0 (N : Tn) (p : Nat) (g : Nat → Nat) : upH N p g 0 = N := by funext j; exact if_neg (by omega)
theorem upH_s {N : Tn} {p k : Nat} {g : Nat → Nat} : updN (upH N p g k) (12 + (8 * p + k)) (g k) = upH N p g (k + 1) := by
  funext j
  unfold updN upH
  by_cases e : j = 12 + (8 * p + k)
  · rw [if_pos e, if_pos (by omega), show j - (12 + 8 * p) = k by omega]
  · rw [if_neg e]
    by_cases q : 12 + 8 * p ≤ j ∧ j < 12 + 8 * p + k
    · rw [if_pos q, if_pos (by omega)]
    · rw [if_neg q, if_neg (by omega)]
theorem upH_p {N : Tn} {p c k : Nat} {g : Nat → Nat} : hN (upH N p g k) p c = if c < k then g c else hN N p c := by
  unfold hN upH
  by_cases h : c < k
  · rw [if_pos (by omega), if_pos h, show 12 + 8 * p + c - (12 + 8 * p) = c by omega]
  · rw [if_neg (by omega), if_neg h]
theorem upH_o {N : Tn} {p r c k : Nat} {g : Nat → Nat} (h : r ≠ p) (hk : k ≤ 8) (hc : c < 8) : hN (upH N p g k) r c = hN N r c := by
  unfold hN upH
  rw [if_neg (by omega)]
theorem upH_lo {N : Tn} {p j k : Nat} {g : Nat → Nat} (hp : p < 5) (hk : k ≤ 8) (h : j < 12 ∨ 52 ≤ j) : upH N p g k j = N j := by
  unfold upH
  rw [if_neg (by omega)]
theorem upH_wf {N : Tn} {p : Nat} {g : Nat → Nat} (hW : WFN N) (hp : p < N 2) (hs : sumN g (N 1) ≤ 9) : WFN (upH N p g (N 1)) := by
  have h5 := hW.1.2.1
  have h8 := hW.1.1
  refine WFN_purse hW (fun j hj => upH_lo (by omega) h8 (by omega)) ?_ ?_ ?_
  · intro r hr
    by_cases e : r = p
    · rw [e, sumN_zero h8 (fun i h1 h2 => by rw [upH_p, if_neg (by omega)]; exact hW.2.2.2.2.1 p i (by omega) h2 (Or.inr h1)), sumN_congr (fun i hi => by rw [upH_p, if_pos hi])]
      exact hs
    · rw [sumN_congr (fun i hi => upH_o e h8 hi)]
      exact hW.2.2.2.1 r hr
  · intro r i hr hi hh
    have h0 := hW.2.2.2.2.1 r i hr hi hh
    by_cases e : r = p
    · have hc1 : ¬ i < N 1 := by omega
      rw [e] at h0
      rw [e, upH_p, if_neg hc1]
      exact h0
    · rw [upH_o e h8 hi]
      exact h0
  · intro i hi
    rw [upH_lo (by omega) h8 (by omega)]
    exact hW.2.2.2.2.2.2.2.1 i hi
def chG (N : Tn) (p k c : Nat) : Nat := hN N p c - sN N k 0 c + sN N k 1 c
def chB (N : Tn) (p k : Nat) : Bool := (List.range (N 1)).all (fun c => decide (sN N k 0 c ≤ hN N p c))
theorem chB_t {N : Tn} {p k : Nat} : chB N p k = true ↔ ∀ c, c < N 1 → sN N k 0 c ≤ hN N p c := by
  unfold chB
  rw [List.all_eq_true]
  constructor
  · intro h c hc; exact of_decide_eq_true (h c (List.mem_range.mpr hc))
  · intro h c hc; exact decide_eq_true (h c (List.mem_range.mp hc))
theorem chB_f {N : Tn} {p k c : Nat} (hc : c < N 1) (h : hN N p c < sN N k 0 c) : chB N p k = false := by
  cases e : chB N p k with
  | false => rfl
  | true => have := chB_t.mp e c hc; omega
theorem chG_sum {N : Tn} {p k : Nat} : ∀ n, (∀ c, c < n → sN N k 0 c ≤ hN N p c) → (sumN (chG N p k) n : Int) = (sumN (hN N p) n : Int) + (sumN (sN N k 1) n : Int) - (sumN (sN N k 0) n : Int) := by
  intro n
  induction n with
  | zero => intro _; rfl
  | succ n ih =>
    intro h
    have h1 := ih (fun c hc => h c (by omega))
    have h2 := h n (by omega)
    rw [sumN_s, sumN_s, sumN_s, sumN_s]
    unfold chG at h1 ⊢
    omega
def chV (N : Tn) (p k : Nat) : Nat := if chB N p k = false then 2 else if 9 < sumN (chG N p k) (N 1) then 3 else 0
theorem sN3 {N : Tn} (hW : WFN N) {k s j : Nat} (hk : k < 6) (hs : s < 2) (hj : j ≤ 8) : sumN (sN N k s) j ≤ 3 := Nat.le_trans (sumN_mono hj) (hW.2.2.2.2.2.1 k s hk hs)
theorem ctX8_changeFault {d p k t : Nat} {N : Tn} (hd : 3 ≤ d) (hW : WFN N) (hp : p < N 2) (hk : k < 6) {σ : Sg} (hR : RowT σ t N) : Ct d MX8_changeFault [rV 17 t, iV (p : Int), iV (k : Int)] σ (.inl [iV (chV N p k : Int)]) σ := by
  have h5 := hW.1.2.1
  have h8 := hW.1.1
  refine (eX8_changeFault (d := 2) ?_).mono hd
  intro X Xr Xt hC hr
  refine bX8_changeFault_0 hC ?_
  refine ⟨_, ctX8_many (by decide) hW (by omega) hR, ?_⟩
  have hm9 := mN_le hW (show p < 5 by omega)
  have key : ∀ c, c ≤ N 1 → (∀ e, e < c → sN N k 0 e ≤ hN N p e) → ∀ x : Int, x = (mN N p : Int) + (sumN (sN N k 1) c : Int) - (sumN (sN N k 0) c : Int) → X 9 [rV 17 t, iV (p : Int), iV (k : Int), iV x, iV (c : Int)] [] σ := by
    refine loop_up (P := fun c => (∀ e, e < c → sN N k 0 e ≤ hN N p e) → ∀ x : Int, x = (mN N p : Int) + (sumN (sN N k 1) c : Int) - (sumN (sN N k 0) c : Int) → X 9 [rV 17 t, iV (p : Int), iV (k : Int), iV x, iV (c : Int)] [] σ) ?_ ?_
    · intro h1 x hx
      have hg := chG_sum (N 1) h1
      refine bX8_changeFault_9 hC ?_
      unfold chV at hr
      rw [chB_t.mpr h1, if_neg (by decide)] at hr
      rw [hR.1 1 (by omega), if_neg (by omega)]
      unfold mN at hx
      by_cases z : 9 < sumN (chG N p k) (N 1)
      · rw [if_pos z] at hr
        rw [if_pos (by omega)]
        exact hr
      · rw [if_neg z] at hr
        rw [if_neg (by omega)]
        exact hr
    · intro c hc ih h1 x hx
      refine bX8_changeFault_9 hC ?_
      rw [hR.1 1 (by omega), if_pos (by omega)]
      refine ⟨_, ctX8_held (by decide) (by omega) (by omega) hR, _, ctX8_onSide (s := 0) (by decide) hk (by decide) (by omega) hR, ?_⟩
      by_cases z : hN N p c < sN N k 0 c
      · rw [if_pos (by omega)]
        unfold chV at hr
        rw [chB_f hc z, if_pos rfl] at hr
        exact hr
      · rw [if_neg (by omega)]
        refine ⟨_, ctX8_onSide (s := 1) (by decide) hk (by decide) (by omega) hR, _, ctX8_onSide (s := 0) (by decide) hk (by decide) (by omega) hR, ?_⟩
        have a0 := sN3 hW hk (show 0 < 2 by decide) (show c + 1 ≤ 8 by omega)
        have a1 := sN3 hW hk (show 1 < 2 by decide) (show c + 1 ≤ 8 by omega)
        rw [sumN_s] at a0 a1
        have e1 : w32 ((sN N k 1 c : Int) - (sN N k 0 c : Int)) = (sN N k 1 c : Int) - (sN N k 0 c : Int) := by unfold w32; omega
        have e2 : w32 (x + ((sN N k 1 c : Int) - (sN N k 0 c : Int))) = x + ((sN N k 1 c : Int) - (sN N k 0 c : Int)) := by unfold w32; omega
        rw [e1, e2, w32_s (by omega)]
        refine ih ?_ _ ?_
        · intro e he
          by_cases q : e = c
          · rw [q]; omega
          · exact h1 e (by omega)
        · rw [sumN_s, sumN_s]; omega
  exact key 0 (Nat.zero_le _) (fun e he => absurd he (Nat.not_lt_zero e)) _ (by show (mN N p : Int) = (mN N p : Int) + (0 : Int) - (0 : Int); omega)
theorem upH_sN {N : Tn} {p k s c j : Nat} {g : Nat → Nat} (hp : p < 5) (hj : j ≤ 8) : sN (upH N p g j) k s c = sN N k s c := upH_lo hp hj (Or.inr (by omega))
theorem ctX8_makeChange {d p k t : Nat} {N : Tn} (hd : 3 ≤ d) (hW : WFN N) (hp : p < N 2) (hk : k < 6) (hok : chV N p k = 0) {σ : Sg} (hR : RowT σ t N) : Ct d MX8_makeChange [rV 17 t, iV (p : Int), iV (k : Int)] σ (.inl [iV (sumN (chG N p k) (N 1) : Int)]) (tnS σ t (upH N p (chG N p k) (N 1))) := by
  have h5 := hW.1.2.1
  have h8 := hW.1.1
  have hok2 : (∀ c, c < N 1 → sN N k 0 c ≤ hN N p c) ∧ sumN (chG N p k) (N 1) ≤ 9 := by
    unfold chV at hok
    cases e : chB N p k with
    | false => rw [e, if_pos rfl] at hok; omega
    | true =>
      rw [e, if_neg (by decide)] at hok
      refine ⟨chB_t.mp e, ?_⟩
      by_cases z : 9 < sumN (chG N p k) (N 1)
      · rw [if_pos z] at hok; omega
      · omega
  have hWM := upH_wf hW hp hok2.2
  refine (eX8_makeChange (d := 2) ?_).mono hd
  intro X Xr Xt hC hr
  refine bX8_makeChange_0 hC ?_
  have key : ∀ c, c ≤ N 1 → X 2 [rV 17 t, iV (p : Int), iV (k : Int), iV (c : Int)] [] (tnS σ t (upH N p (chG N p k) c)) := by
    refine loop_up (P := fun c => X 2 [rV 17 t, iV (p : Int), iV (k : Int), iV (c : Int)] [] (tnS σ t (upH N p (chG N p k) c))) ?_ ?_
    · refine bX8_makeChange_2 hC ?_
      rw [tnS_0 (by decide), upH_lo (by omega) h8 (Or.inl (by decide)), if_neg (by omega)]
      refine ⟨_, ctX8_many (by decide) hWM (by omega) (tnS_row _ _ _), ?_⟩
      have : mN (upH N p (chG N p k) (N 1)) p = sumN (chG N p k) (N 1) := by
        unfold mN
        rw [upH_lo (by omega) h8 (Or.inl (by decide))]
        exact sumN_congr (fun c hc => by rw [upH_p, if_pos hc])
      rw [this]
      exact hr
    · intro c hc ih
      refine bX8_makeChange_2 hC ?_
      rw [tnS_0 (by decide), upH_lo (by omega) (by omega) (Or.inl (by decide)), if_pos (by omega)]
      have o1 := ctX8_onSide (d := 2) (k := k) (s := 1) (c := c) (by decide) hk (by decide) (by omega) (tnS_row σ t (upH N p (chG N p k) c))
      have o0 := ctX8_onSide (d := 2) (k := k) (s := 0) (c := c) (by decide) hk (by decide) (by omega) (tnS_row σ t (upH N p (chG N p k) c))
      rw [upH_sN (by omega) (by omega)] at o1 o0
      have b1 := sN_le hW hk (show 1 < 2 by decide) (show c < 8 by omega)
      have b0 := sN_le hW hk (show 0 < 2 by decide) (show c < 8 by omega)
      have bh := hN_le hW (show p < 5 by omega) (show c < 8 by omega)
      have hl := hok2.1 c hc
      refine ⟨_, o1, _, o0, ?_⟩
      rw [show w32 ((sN N k 1 c : Int) - (sN N k 0 c : Int)) = (sN N k 1 c : Int) - (sN N k 0 c : Int) by unfold w32; omega, w32_s (by omega)]
      refine ⟨_, ctX8_come (v := chG N p k c) (by decide) (by omega) (by omega) ?_ ?_, ?_⟩
      · rw [upH_p, if_neg (by omega)]
        unfold chG
        omega
      · unfold chG; omega
      · rw [upH_s]
        exact ih
  have := key 0 (Nat.zero_le _)
  rw [upH_0, tnS_id hR] at this
  exact this
theorem chG_le {N : Tn} (hW : WFN N) {p k c : Nat} (hp : p < 5) (hk : k < 6) (hc : c < 8) : chG N p k c ≤ 12 := by
  have := hN_le hW hp hc
  have := sN_le hW hk (show 1 < 2 by decide) hc
  unfold chG
  omega
theorem jt_changes {ω : Nat → Int} {σ : Sg} (hI : Inv ω σ) (x y : Int) : Jt ω MX10_changes MX11_changes [iV x, iV y] iV cdN σ := by
  obtain ⟨N, hQ⟩ := hI.1
  have hW := hQ.2.2
  have h5 := hW.1.2.1
  have h8 := hW.1.1
  have h6 := hW.1.2.2.1
  have e3 : w32 ((N 3 : Int) - 1) = (N 3 : Int) - 1 := by unfold w32; omega
  by_cases h : 0 ≤ x ∧ x < N 2
  · by_cases g : 0 ≤ y ∧ y < N 3
    · obtain ⟨p, hp⟩ := z_nat h.1
      subst hp
      obtain ⟨k, hk⟩ := z_nat g.1
      subst hk
      have hp2 : p < N 2 := by omega
      have hk6 : k < 6 := by omega
      obtain ⟨M, hMd⟩ : ∃ M, M = if chV N p k = 0 then upH N p (chG N p k) (N 1) else N := ⟨_, rfl⟩
      obtain ⟨V, hV⟩ : ∃ V : Int, V = if chV N p k = 0 then (sumN (chG N p k) (N 1) : Int) else -(chV N p k : Int) := ⟨_, rfl⟩
      have hch : chV N p k = 0 ∨ (chV N p k = 2 ∧ chB N p k = false) ∨ (chV N p k = 3 ∧ chB N p k = true ∧ 9 < sumN (chG N p k) (N 1)) := by
        unfold chV
        cases e : chB N p k with
        | false => exact Or.inr (Or.inl ⟨if_pos rfl, rfl⟩)
        | true =>
          rw [if_neg (by decide)]
          by_cases z : 9 < sumN (chG N p k) (N 1)
          · rw [if_pos z]; exact Or.inr (Or.inr ⟨rfl, rfl, z⟩)
          · rw [if_neg z]; exact Or.inl rfl
      have hok2 : chV N p k = 0 → (∀ c, c < N 1 → sN N k 0 c ≤ hN N p c) ∧ sumN (chG N p k) (N 1) ≤ 9 := by
        intro hok
        unfold chV at hok
        cases e : chB N p k with
        | false => rw [e, if_pos rfl] at hok; omega
        | true =>
          rw [e, if_neg (by decide)] at hok
          refine ⟨chB_t.mp e, ?_⟩
          by_cases z : 9 < sumN (chG N p k) (N 1)
          · rw [if_pos z] at hok; omega
          · omega
      have hWM : WFN M := by
        rw [hMd]
        split
        · rename_i q; exact upH_wf hW hp2 (hok2 q).2
        · exact hW
      refine Or.inl ⟨V, tnS σ 7 M, ?_, ?_⟩
      · refine (eX10_changes (d := 5) ?_).mono (by decide)
        intro X Xr Xt hC hr
        refine bX10_changes_0 hC ?_
        refine Or.inl ⟨ctX10_needPerson (by decide) hQ.1 h, Or.inl ⟨ctX10_needChange (by decide) hQ.1 g, _, ctX8_changeFault (by decide) hW hp2 hk6 hQ.1, ?_⟩⟩
        by_cases q : chV N p k = 0
        · rw [if_pos q] at hV hMd
          rw [if_pos (by omega)]
          refine ⟨_, _, ctX8_makeChange (by decide) hW hp2 hk6 q hQ.1, ?_⟩
          rw [hV, hMd] at hr
          exact hr
        · rw [if_neg q] at hV hMd
          rw [if_neg (by omega), show w32 (-(chV N p k : Int)) = -(chV N p k : Int) by unfold w32; omega]
          rw [hV, hMd, tnS_id hQ.1] at hr
          exact hr
      · intro τ ha
        have hcf := (FrC.refl σ).tn (M := M)
        have hM0 := RowM_c hQ.2.1 hcf ha
        have hM1 : RowM (upS τ 66 5 0) 67 0 N := RowM_ups hM0 (by decide)
        refine ⟨rwS (upS τ 66 5 0) 67 0 M, ?_, by rw [rwS_cell (by decide)]; exact ups_eq, wr_end hI hcf (tnS_row _ _ _) ha (th_r (FrR.refl τ)).rw67 (rwS_row _ _ _ _) hWM⟩
        refine (eX11_changes (d := 5) ?_).mono (by decide)
        intro X Xr Xt hC hr
        refine bX11_changes_0 hC ?_
        refine ⟨_, ctX11_isP (by decide) h5 hM1 h, ?_⟩
        rw [if_neg (by decide), rwm0 hM1 (by decide), e3]
        refine ⟨_, ctX11_wi (by decide) (by omega), ?_⟩
        rw [if_neg (by decide)]
        have hend : chV N p k = 0 → ∀ x : Int, x = (sumN (chG N p k) (N 1) : Int) → X 119 [rV 20 66, iV (p : Int), iV (k : Int), iV x, iV 0] [] (upS τ 66 5 0) := by
          intro q x hx
          rw [if_pos q] at hV hMd
          have hok := hok2 q
          have key : ∀ c, c ≤ N 1 → X 119 [rV 20 66, iV (p : Int), iV (k : Int), iV x, iV (c : Int)] [] (rwS (upS τ 66 5 0) 67 0 (upH N p (chG N p k) c)) := by
            refine loop_up (P := fun c => X 119 [rV 20 66, iV (p : Int), iV (k : Int), iV x, iV (c : Int)] [] (rwS (upS τ 66 5 0) 67 0 (upH N p (chG N p k) c))) ?_ ?_
            · refine bX11_changes_119 hC ?_
              refine ⟨_, ctX11_coins (by decide) (rwS_row _ _ _ _), ?_⟩
              rw [upH_lo (by omega) h8 (Or.inl (by decide)), if_neg (by omega)]
              rw [hV, hMd, ← hx] at hr
              exact hr
            · intro c hc ih
              refine bX11_changes_119 hC ?_
              refine ⟨_, ctX11_coins (by decide) (rwS_row _ _ _ _), ?_⟩
              have o1 := ctX11_side (d := 5) (k := k) (s := 1) (c := c) (by decide) hk6 (by decide) (by omega) (rwS_row (upS τ 66 5 0) 67 0 (upH N p (chG N p k) c))
              have o0 := ctX11_side (d := 5) (k := k) (s := 0) (c := c) (by decide) hk6 (by decide) (by omega) (rwS_row (upS τ 66 5 0) 67 0 (upH N p (chG N p k) c))
              rw [upH_sN (by omega) (by omega)] at o1 o0
              have b1 := sN_le hW hk6 (show 1 < 2 by decide) (show c < 8 by omega)
              have b0 := sN_le hW hk6 (show 0 < 2 by decide) (show c < 8 by omega)
              have bh := hN_le hW (show p < 5 by omega) (show c < 8 by omega)
              have hl := hok.1 c hc
              rw [upH_lo (by omega) (by omega) (Or.inl (by decide)), if_pos (by omega), w_hold (by omega) (by omega), Int.toNat_natCast, rd_hold (by omega) (by omega) (rwS_row _ _ _ _), upH_p, if_neg (by omega)]
              refine ⟨by omega, _, o1, _, o0, by omega, ?_⟩
              rw [show w32 ((sN N k 1 c : Int) - (sN N k 0 c : Int)) = (sN N k 1 c : Int) - (sN N k 0 c : Int) by unfold w32; omega, w32_s (by omega), show w32 ((hN N p c : Int) + ((sN N k 1 c : Int) - (sN N k 0 c : Int))) = (chG N p k c : Int) by unfold chG w32; omega, rwS_up (by omega), upH_s]
              exact ih
          have := key 0 (Nat.zero_le _)
          rw [upH_0, rwS_id hM1] at this
          exact this
        have hbad : chV N p k ≠ 0 → Xr [iV (-(chV N p k : Int))] (upS τ 66 5 0) := by
          intro q
          rw [if_neg q] at hV hMd
          rw [hV, hMd, rwS_id hM1] at hr
          exact hr
        have key : ∀ c, c ≤ N 1 → (∀ e, e < c → sN N k 0 e ≤ hN N p e) → ∀ x : Int, x = (sumN (chG N p k) c : Int) → X 43 [rV 20 66, iV (p : Int), iV (k : Int), iV x, iV (c : Int)] [] (upS τ 66 5 0) := by
          refine loop_up (P := fun c => (∀ e, e < c → sN N k 0 e ≤ hN N p e) → ∀ x : Int, x = (sumN (chG N p k) c : Int) → X 43 [rV 20 66, iV (p : Int), iV (k : Int), iV x, iV (c : Int)] [] (upS τ 66 5 0)) ?_ ?_
          · intro h1 x hx
            refine bX11_changes_43 hC ?_
            refine ⟨_, ctX11_coins (by decide) hM1, ?_⟩
            rw [if_neg (by omega)]
            have hB := chB_t.mpr h1
            rcases hch with q | ⟨q, q2⟩ | ⟨q, q2, q3⟩
            · rw [if_neg (by have := (hok2 q).2; omega)]
              exact hend q x hx
            · rw [hB] at q2; exact absurd q2 (by decide)
            · rw [if_pos (by omega)]
              have := hbad (by omega)
              rw [q] at this
              exact this
          · intro c hc ih h1 x hx
            refine bX11_changes_43 hC ?_
            refine ⟨_, ctX11_coins (by decide) hM1, ?_⟩
            rw [if_pos (by omega)]
            refine ⟨_, ctX11_of (by decide) (by omega) (by omega) hM1, _, ctX11_side (s := 0) (by decide) hk6 (by decide) (by omega) hM1, ?_⟩
            by_cases z : hN N p c < sN N k 0 c
            · rw [if_pos (by omega)]
              have hf := chB_f hc z
              have q : chV N p k = 2 := by unfold chV; rw [hf, if_pos rfl]
              have := hbad (by omega)
              rw [q] at this
              exact this
            · rw [if_neg (by omega)]
              refine ⟨_, ctX11_of (by decide) (by omega) (by omega) hM1, _, ctX11_side (s := 0) (by decide) hk6 (by decide) (by omega) hM1, _, ctX11_side (s := 1) (by decide) hk6 (by decide) (by omega) hM1, ?_⟩
              have b1 := sN_le hW hk6 (show 1 < 2 by decide) (show c < 8 by omega)
              have bh := hN_le hW (show p < 5 by omega) (show c < 8 by omega)
              have hbd : sumN (chG N p k) c ≤ c * 12 := sumN_bound (fun i hi => chG_le hW (by omega) hk6 (by omega))
              have eg : chG N p k c = hN N p c - sN N k 0 c + sN N k 1 c := rfl
              rw [show w32 ((hN N p c : Int) - (sN N k 0 c : Int)) = (hN N p c : Int) - (sN N k 0 c : Int) by unfold w32; omega, show w32 ((hN N p c : Int) - (sN N k 0 c : Int) + (sN N k 1 c : Int)) = (chG N p k c : Int) by unfold w32; omega, show w32 (x + (chG N p k c : Int)) = x + (chG N p k c : Int) by unfold w32; omega, w32_s (by omega)]
              refine ih ?_ _ ?_
              · intro e he
                by_cases q : e = c
                · rw [q]; omega
                · exact h1 e (by omega)
              · rw [sumN_s]; omega
        exact key 0 (Nat.zero_le _) (fun e he => absurd he (Nat.not_lt_zero e)) 0 rfl
    · refine Or.inr ⟨1, σ, by decide, ?_, ?_⟩
      · refine (eX10_changes (d := 5) ?_).mono (by decide)
        intro X Xr Xt hC hr
        refine bX10_changes_0 hC ?_
        exact Or.inl ⟨ctX10_needPerson (by decide) hQ.1 h, Or.inr ⟨_, ctX10_needChange_no (by decide) hQ.1 g, hr⟩⟩
      · intro τ ha
        have hM0 := (InvN_ag hQ ha).2.1
        have hM : ∀ v, RowM (upS τ 66 5 v) 67 0 N := fun v => RowM_ups hM0 (by decide)
        refine ⟨0, upS (upS τ 66 5 0) 66 5 1, ?_, ups_eq, Inv_fr hI ((th_fr ha).ups66 (by decide) (by decide) (by decide))⟩
        refine (eX11_changes (d := 5) ?_).mono (by decide)
        intro X Xr Xt hC hr
        refine bX11_changes_0 hC ?_
        refine ⟨_, ctX11_isP (by decide) h5 (hM 0) h, ?_⟩
        rw [if_neg (by decide), rwm0 (hM 0) (by decide), e3]
        refine ⟨_, ctX11_wi_no (by decide) (by omega), ?_⟩
        rw [if_pos (by decide)]
        exact ⟨_, _, ctX11_fails (by decide), hr⟩
  · refine Or.inr ⟨1, σ, by decide, ?_, ?_⟩
    · refine (eX10_changes (d := 5) ?_).mono (by decide)
      intro X Xr Xt hC hr
      refine bX10_changes_0 hC ?_
      exact Or.inr ⟨_, ctX10_needPerson_no (by decide) hQ.1 h, hr⟩
    · intro τ ha
      have hM0 := (InvN_ag hQ ha).2.1
      have hM : ∀ v, RowM (upS τ 66 5 v) 67 0 N := fun v => RowM_ups hM0 (by decide)
      refine ⟨0, upS (upS τ 66 5 0) 66 5 1, ?_, ups_eq, Inv_fr hI ((th_fr ha).ups66 (by decide) (by decide) (by decide))⟩
      refine (eX11_changes (d := 5) ?_).mono (by decide)
      intro X Xr Xt hC hr
      refine bX11_changes_0 hC ?_
      refine ⟨_, ctX11_isP_no (by decide) h5 (hM 0) h, ?_⟩
      rw [if_pos (by decide)]
      exact ⟨_, _, ctX11_fails (by decide), hr⟩
