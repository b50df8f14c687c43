/-! a coin of a purse: the reference -/
def nxt : Po → Prop → Prop → Prop
  | .inl _, P, _ => P
  | .inr _, _, Q => Q
theorem blS_row {τ : Sg} {tx : Nat → Int} {n t : Nat} {k : Int} {N : Tn} (h : RowM τ 68 0 N) : RowM (blS τ tx n t k) 68 0 N := RowM_cell h (by unfold blS; rw [ups_cell (by decide), ups_cell (by decide)])
theorem blS_bad {τ : Sg} {tx : Nat → Int} {n t : Nat} {k : Int} (hk : k ≠ 0) : blS τ tx n t k 66 13 ≠ 0 := by
  unfold blS
  rw [ups_ne (by decide), ups_eq]
  exact stpK_ne hk
theorem blS_RQ {τ : Sg} {tx : Nat → Int} {n t : Nat} {k : Int} (hk : k ≠ 0) : RQ τ (blS τ tx n t k) tx n (stpO tx n t k) := by
  refine ⟨⟨fun j hj => ?_, fun b h1 h2 => ?_⟩, stpK_ne hk, ?_, ?_⟩
  · unfold blS
    rw [ups_ne (by omega), ups_ne (by omega)]
  · unfold blS
    rw [ups_cell h1, ups_cell h1]
  · unfold blS
    rw [ups_ne (by decide), ups_eq]
  · unfold blS
    rw [ups_eq]
theorem purse_R {τ : Sg} {tx : Nat → Int} {n t K : Nat} {N : Tn} (hn : n ≤ 700) (h : RP τ tx n t N) (q : tK tx n t = 2) (hW : WFP N (N 2 + 1) K) : ∃ τ1, (∀ (X : Nat → List Vv → List Vv → Sg → Prop) (Xr : List Vv → Sg → Prop) (Xt : Nat → Sg → Prop), Clo (Ct 8) 11 cX11_readPurse none X Xr Xt → nxt (puO tx n t N) (∀ x2 : Int, X 63 [rV 20 66, iV ((12 + 8 * N 2 : Nat) : Int), iV x2, uV] [] τ1) (Xr [] τ1) → ∀ x2 : Int, X 63 [rV 20 66, iV ((12 + 8 * N 2 : Nat) : Int), iV x2, uV] [] τ) ∧ RQ τ τ1 tx n (puO tx n t N) := by
  have h5 := (wfp_1 hW).2.1
  have h8 := (wfp_1 hW).1
  have hP : N 2 < 5 := by omega
  have hs := wfp_hs hW hP
  have hnum := isNumber_R (d := 8) (by decide) h.1 h.2.2
  rw [decide_eq_true q] at hnum
  have av : τ 66 12 = tV tx n t := h.1.2.2.2.2 q
  have inp : ∀ (ρ : Sg) (M : Tn), RowM ρ 68 0 M → (∀ i, i < 8 → M (12 + 8 * N 2 + i) = hN N (N 2) i) → Ct 8 MX11_inPurse [rV 20 66, iV ((12 + 8 * N 2 : Nat) : Int)] ρ (.inl [iV (sumN (hN N (N 2)) 8 : Int)]) ρ := by
    intro ρ M hM hE
    have e : sumN (fun i => M (12 + 8 * N 2 + i)) 8 = sumN (hN N (N 2)) 8 := sumN_congr hE
    have := inPurse_R (d := 8) (b := 12 + 8 * N 2) (N := M) (σ := ρ) (by decide) (by omega) hM (by rw [e]; omega)
    rw [e] at this
    exact this
  have inp0 : ∀ ρ : Sg, RowM ρ 68 0 N → Ct 8 MX11_inPurse [rV 20 66, iV ((12 + 8 * N 2 : Nat) : Int)] ρ (.inl [iV (sumN (hN N (N 2)) 8 : Int)]) ρ := fun ρ hM => inp ρ N hM (fun i _ => rfl)
  by_cases y : nrN N (tV tx n t) = -1
  · have eo : puO tx n t N = stpO tx n t 3 := by unfold puO; rw [if_pos y]
    rw [eo]
    refine ⟨blS τ tx n t 3, ?_, blS_RQ (by decide)⟩
    intro X Xr Xt hC hr x2
    have hb : blS τ tx n t 3 66 13 ≠ 0 := blS_bad (by decide)
    refine bX11_readPurse_63 hC ?_
    refine ⟨_, hnum, ?_⟩
    rw [if_neg (by decide), av]
    refine ⟨_, ctX11_coinOf (by decide) h8 h.2.1, ?_⟩
    rw [if_pos y]
    refine ⟨_, blames_R (by decide) h.1 h.2.2, _, inp0 _ (blS_row h.2.1), ?_⟩
    by_cases z : (sumN (hN N (N 2)) 8 : Int) = 9
    · rw [if_pos z]
      refine ⟨_, blames_R0 (by decide) hb, ?_⟩
      rw [if_neg hb]
      exact hr
    · rw [if_neg z, if_neg hb]
      exact hr
  · have hr0 := nrN_rng N (tV tx n t)
    obtain ⟨c, hcz⟩ := z_nat (show 0 ≤ nrN N (tV tx n t) by omega)
    have hc : c < N 1 := by omega
    have nc : (nrN N (tV tx n t)).toNat = c := by rw [hcz, Int.toNat_natCast]
    by_cases z : sumN (hN N (N 2)) 8 = 9
    · have eo : puO tx n t N = stpO tx n t 4 := by unfold puO; rw [if_neg y, if_pos z]
      rw [eo]
      refine ⟨blS τ tx n t 4, ?_, blS_RQ (by decide)⟩
      intro X Xr Xt hC hr x2
      have hb : blS τ tx n t 4 66 13 ≠ 0 := blS_bad (by decide)
      refine bX11_readPurse_63 hC ?_
      refine ⟨_, hnum, ?_⟩
      rw [if_neg (by decide), av]
      refine ⟨_, ctX11_coinOf (by decide) h8 h.2.1, ?_⟩
      rw [if_neg y]
      refine ⟨_, inp0 _ h.2.1, ?_⟩
      rw [if_pos (by omega)]
      refine ⟨_, blames_R (by decide) h.1 h.2.2, ?_⟩
      rw [if_neg hb]
      exact hr
    · have hh : hN N (N 2) c ≤ sumN (hN N (N 2)) 8 := sumN_le_one (f := hN N (N 2)) (by omega)
      obtain ⟨τ2, c1, c2, c3⟩ := rp_reads (d := 8) (by decide) hn h
      obtain ⟨τ3, d1, d2, d3⟩ := took_R (d := 8) (k := 6) (j := 2) (by decide) (by decide) (by decide) hn (fun b e => (isW_ref tx b e).2.1) c2
      have pre : ∀ (X : Nat → List Vv → List Vv → Sg → Prop) (Xr : List Vv → Sg → Prop) (Xt : Nat → Sg → Prop), Clo (Ct 8) 11 cX11_readPurse none X Xr Xt → ∀ x2 : Int, (if tK tx n (t + 1) = 7 then (if τ3 66 11 = 2 then (∃ v43 : Int, Ct 8 MX11_within [lV (τ3 66 12), lV 1, lV 9] τ3 (.inl [iV v43]) τ3 ∧ (if v43 = 0 then (∃ σa : Sg, Ct 8 MX11_blames [rV 20 66, iV 3] τ3 (.inl []) σa ∧ σa 66 13 ≠ 0 ∧ Xr [] σa) else (∃ v46 : Int, Ct 8 MX11_inPurse [rV 20 66, iV ((12 + 8 * N 2 : Nat) : Int)] τ3 (.inl [iV v46]) τ3 ∧ (if (9 : Int) < w32 (v46 + τ3 66 12) then (∃ σa : Sg, Ct 8 MX11_blames [rV 20 66, iV 4] τ3 (.inl []) σa ∧ σa 66 13 ≠ 0 ∧ Xr [] σa) else (τ3 66 13 = 0 ∧ ∃ σ49 : Sg, Ct 8 MX11_reads [rV 20 66] τ3 (.inl []) σ49 ∧ X 63 [rV 20 66, iV ((12 + 8 * N 2 : Nat) : Int), iV (c : Int), uV] [] (upS σ49 68 (12 + 8 * N 2 + c) (w32 (σ49 68 (12 + 8 * N 2 + c) + τ3 66 12)))))))) else (∃ σa : Sg, Ct 8 MX11_blames [rV 20 66, iV 2] τ3 (.inl []) σa ∧ σa 66 13 ≠ 0 ∧ Xr [] σa)) else X 63 [rV 20 66, iV ((12 + 8 * N 2 : Nat) : Int), iV (c : Int), uV] [] (upS τ3 68 (12 + 8 * N 2 + c) (w32 (τ3 68 (12 + 8 * N 2 + c) + 1)))) → X 63 [rV 20 66, iV ((12 + 8 * N 2 : Nat) : Int), iV x2, uV] [] τ := by
        intro X Xr Xt hC x2 hx
        refine bX11_readPurse_63 hC ?_
        refine ⟨_, hnum, ?_⟩
        rw [if_neg (by decide), av]
        refine ⟨_, ctX11_coinOf (by decide) h8 h.2.1, ?_⟩
        rw [if_neg y, hcz]
        refine ⟨_, inp0 _ h.2.1, ?_⟩
        have b4 : 0 ≤ ((12 + 8 * N 2 + c : Nat) : Int) ∧ ((12 + 8 * N 2 + c : Nat) : Int) < 181 := by omega
        rw [if_neg (by omega), if_pos h.2.2, ← Int.natCast_add, w32_n (show 12 + 8 * N 2 + c < 2147483648 by omega), Int.toNat_natCast]
        refine ⟨_, c1, _, _, d1, ?_⟩
        by_cases w : tK tx n (t + 1) = 7
        · rw [if_pos w] at hx
          rw [decide_eq_true (show tK tx n (t + 1) = 5 + 2 from w), if_neg (by decide)]
          by_cases a : τ3 66 11 = 2
          · rw [if_pos a] at hx ⊢
            obtain ⟨v43, x1, hx⟩ := hx
            refine ⟨v43, x1, ?_⟩
            by_cases b : v43 = 0
            · rw [if_pos b] at hx ⊢
              obtain ⟨σ44, y1, y2, y3⟩ := hx
              refine ⟨σ44, y1, ?_⟩
              rw [if_neg y2]
              exact y3
            · rw [if_neg b] at hx ⊢
              obtain ⟨v46, z1, hx⟩ := hx
              refine ⟨v46, z1, ?_⟩
              by_cases g : (9 : Int) < w32 (v46 + τ3 66 12)
              · rw [if_pos g] at hx ⊢
                obtain ⟨σ47, y1, y2, y3⟩ := hx
                refine ⟨σ47, y1, ?_⟩
                rw [if_neg y2]
                exact y3
              · rw [if_neg g] at hx ⊢
                obtain ⟨y0, σ49, y1, y2⟩ := hx
                rw [if_pos y0]
                exact ⟨σ49, y1, b4, b4, y2⟩
          · rw [if_neg a] at hx ⊢
            obtain ⟨σ50, y1, y2, y3⟩ := hx
            refine ⟨σ50, y1, ?_⟩
            rw [if_neg y2]
            exact y3
        · rw [if_neg w] at hx
          rw [decide_eq_false (show ¬ tK tx n (t + 1) = 5 + 2 from w), if_pos (by decide)]
          exact ⟨b4, b4, hx⟩
      by_cases w : tK tx n (t + 1) = 7
      · have eo : puO tx n t N = tmO tx n t N c := by unfold puO; rw [if_neg y, if_neg z, if_pos w, nc]
        obtain ⟨r3, f3⟩ := d2 w
        rw [eo]
        have b11 : τ3 66 11 = rkd (tK tx n (t + 2)) := r3.1.2.2.2.1
        by_cases g : tK tx n (t + 2) = 2
        · have g11 : τ3 66 11 = 2 := by rw [b11]; exact rkd_is.1.mpr g
          obtain ⟨v0, v1⟩ := tV_b g
          obtain ⟨v, hv⟩ := z_nat v0
          have nv : (tV tx n (t + 2)).toNat = v := by rw [hv, Int.toNat_natCast]
          have a12 : τ3 66 12 = (v : Int) := by rw [← hv]; exact r3.1.2.2.2.2 g
          have hin := ctX11_within (d := 8) (x := (v : Int)) (a := 1) (b := 9) (σ := τ3) (by decide)
          by_cases k : 1 ≤ tV tx n (t + 2) ∧ tV tx n (t + 2) ≤ 9
          · rw [decide_eq_true (show 1 ≤ (v : Int) ∧ (v : Int) ≤ 9 by omega)] at hin
            by_cases m : 9 < sumN (hN N (N 2)) 8 + v
            · have eo : tmO tx n t N c = stpO tx n (t + 2) 4 := by unfold tmO; rw [if_pos g, if_pos k, nv, if_pos m]
              rw [eo]
              refine ⟨blS τ3 tx n (t + 2) 4, ?_, (blS_RQ (by decide)).after (c3.trans f3)⟩
              intro X Xr Xt hC hr x2
              refine pre X Xr Xt hC x2 ?_
              rw [if_pos w, if_pos g11, a12]
              refine ⟨_, hin, ?_⟩
              rw [if_neg (by decide)]
              refine ⟨_, inp0 _ r3.2.1, ?_⟩
              rw [← Int.natCast_add, w32_n (show sumN (hN N (N 2)) 8 + v < 2147483648 by omega), if_pos (by omega)]
              exact ⟨_, blames_R (by decide) r3.1 r3.2.2, blS_bad (by decide), hr⟩
            · have eo : tmO tx n t N c = .inl (cuN N c v, t + 3) := by unfold tmO; rw [if_pos g, if_pos k, nv, if_neg m]
              obtain ⟨τ4, p1, p2, p3⟩ := rp_reads (d := 8) (by decide) hn r3
              have a4 : τ4 68 (12 + 8 * N 2 + c) = (hN N (N 2) c : Int) := by
                have := p2.2.1 (12 + 8 * N 2 + c) (by omega)
                rw [Nat.zero_add] at this
                exact this
              have e5 : upS τ4 68 (12 + 8 * N 2 + c) (w32 (τ4 68 (12 + 8 * N 2 + c) + (v : Int))) = rwS τ4 68 0 (cuN N c v) := by
                rw [a4, ← Int.natCast_add, w32_n (show hN N (N 2) c + v < 2147483648 by omega)]
                exact rw_cm hP (by omega) p2.2.1
              obtain ⟨s1, s2⟩ := rp_rw (M := cuN N c v) p2
              rw [eo]
              refine ⟨_, ?_, ((c3.trans f3).trans p3).trans s2, s1⟩
              intro X Xr Xt hC hr x2
              refine pre X Xr Xt hC x2 ?_
              rw [if_pos w, if_pos g11, a12]
              refine ⟨_, hin, ?_⟩
              rw [if_neg (by decide)]
              refine ⟨_, inp0 _ r3.2.1, ?_⟩
              rw [← Int.natCast_add, w32_n (show sumN (hN N (N 2)) 8 + v < 2147483648 by omega), if_neg (by omega)]
              refine ⟨r3.2.2, _, p1, ?_⟩
              rw [e5]
              exact hr _
          · have eo : tmO tx n t N c = stpO tx n (t + 2) 3 := by unfold tmO; rw [if_pos g, if_neg k]
            rw [decide_eq_false (show ¬ (1 ≤ (v : Int) ∧ (v : Int) ≤ 9) by omega)] at hin
            rw [eo]
            refine ⟨blS τ3 tx n (t + 2) 3, ?_, (blS_RQ (by decide)).after (c3.trans f3)⟩
            intro X Xr Xt hC hr x2
            refine pre X Xr Xt hC x2 ?_
            rw [if_pos w, if_pos g11, a12]
            refine ⟨_, hin, ?_⟩
            rw [if_pos (by decide)]
            exact ⟨_, blames_R (by decide) r3.1 r3.2.2, blS_bad (by decide), hr⟩
        · have eo : tmO tx n t N c = stpO tx n (t + 2) 2 := by unfold tmO; rw [if_neg g]
          rw [eo]
          refine ⟨blS τ3 tx n (t + 2) 2, ?_, (blS_RQ (by decide)).after (c3.trans f3)⟩
          intro X Xr Xt hC hr x2
          refine pre X Xr Xt hC x2 ?_
          rw [if_pos w, b11, if_neg (fun z => g (rkd_is.1.mp z))]
          exact ⟨_, blames_R (by decide) r3.1 r3.2.2, blS_bad (by decide), hr⟩
      · have eo : puO tx n t N = .inl (cuN N c 1, t + 1) := by unfold puO; rw [if_neg y, if_neg z, if_neg w, nc]
        have e3 := d3 w
        subst e3
        have a4 : τ3 68 (12 + 8 * N 2 + c) = (hN N (N 2) c : Int) := by
          have := c2.2.1 (12 + 8 * N 2 + c) (by omega)
          rw [Nat.zero_add] at this
          exact this
        have e5 : upS τ3 68 (12 + 8 * N 2 + c) (w32 (τ3 68 (12 + 8 * N 2 + c) + 1)) = rwS τ3 68 0 (cuN N c 1) := by
          rw [a4, w32_s (show hN N (N 2) c < 2147483647 by omega)]
          exact rw_cm hP (by omega) c2.2.1
        obtain ⟨s1, s2⟩ := rp_rw (M := cuN N c 1) c2
        rw [eo]
        refine ⟨_, ?_, c3.trans s2, s1⟩
        intro X Xr Xt hC hr x2
        refine pre X Xr Xt hC x2 ?_
        rw [if_neg w, e5]
        exact hr _
