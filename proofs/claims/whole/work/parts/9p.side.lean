/-! a side's row: pure rows -/
theorem sN_upd {N : Tn} {k s c v k2 s2 e : Nat} (hs : s < 2) (hc : c < 8) (hs2 : s2 < 2) (he : e < 8) : sN (updN N (52 + (16 * k + 8 * s + c)) v) k2 s2 e = if k2 = k ∧ s2 = s ∧ e = c then v else sN N k2 s2 e := by
  show updN N (52 + (16 * k + 8 * s + c)) v (52 + 16 * k2 + 8 * s2 + e) = _
  by_cases q : k2 = k ∧ s2 = s ∧ e = c
  · rw [if_pos q, show 52 + 16 * k2 + 8 * s2 + e = 52 + (16 * k + 8 * s + c) by omega, updN_eq]
  · rw [if_neg q, updN_ne (by omega)]
    rfl
theorem WFN_side {N : Tn} {k s c v : Nat} (hW : WFN N) (hk : k < N 3) (hs : s < 2) (hc : c < N 1) (hv : sumN (sN N k s) 8 + v ≤ 3 + sN N k s c) : WFN (updN N (52 + (16 * k + 8 * s + c)) v) := by
  obtain ⟨w1, w2, w3, w4, w5, w6, w7, w8, w9, w10⟩ := hW
  have hc8 : c < 8 := by omega
  have hk6 : k < 6 := by omega
  have e0 : ∀ j, j < 52 → updN N (52 + (16 * k + 8 * s + c)) v j = N j := fun j hj => updN_ne (by omega)
  have e9 : ∀ j, 148 ≤ j → updN N (52 + (16 * k + 8 * s + c)) v j = N j := fun j hj => updN_ne (by omega)
  have eh : ∀ p, p < 5 → ∀ d, d < 8 → hN (updN N (52 + (16 * k + 8 * s + c)) v) p d = hN N p d := fun p hp d hd => e0 _ (by omega)
  have a0 := e0 0 (by decide)
  have a1 := e0 1 (by decide)
  have a2 := e0 2 (by decide)
  have a3 := e0 3 (by decide)
  refine ⟨by rw [a0, a1, a2, a3]; exact w1, fun d hd => ?_, fun d f hd hf => ?_, fun p hp => by rw [sumN_congr (eh p hp)]; exact w4 p hp, fun p d hp hd z => by rw [a1, a2] at z; rw [eh p hp d hd]; exact w5 p d hp hd z, fun k2 s2 hk2 hs2 => ?_, fun k2 s2 d hk2 hs2 hd z => ?_, fun d hd => by rw [e9 _ (by omega), a1]; exact w8 d hd, fun p q hp hq => ?_, fun d hd => by rw [a1, e0 (4 + d) (by omega)]; exact w10 d hd⟩
  · rw [a1] at hd
    rw [e0 _ (by omega)]
    exact w2 d hd
  · rw [a1] at hd hf
    rw [e0 _ (by omega), e0 _ (by omega)]
    exact w3 d f hd hf
  · by_cases q : k2 = k ∧ s2 = s
    · have e : sumN (sN (updN N (52 + (16 * k + 8 * s + c)) v) k2 s2) 8 = sumN (fun i => if i = c then v else sN N k s i) 8 := by
        refine sumN_congr (fun i hi => ?_)
        rw [sN_upd hs hc8 hs2 hi]
        by_cases r : i = c
        · rw [if_pos ⟨q.1, q.2, r⟩]
          show _ = if i = c then _ else _
          rw [if_pos r]
        · rw [if_neg (fun z => r z.2.2), q.1, q.2]
          show _ = if i = c then _ else _
          rw [if_neg r]
      have := sumN_upd (f := sN N k s) (c := c) (v := v) 8 hc8
      rw [e]
      omega
    · rw [sumN_congr (g := sN N k2 s2) (fun i hi => by rw [sN_upd hs hc8 hs2 hi, if_neg (fun z => q ⟨z.1, z.2.1⟩)])]
      exact w6 k2 s2 hk2 hs2
  · rw [a1, a3] at z
    rw [sN_upd hs hc8 hs2 hd, if_neg (by omega)]
    exact w7 k2 s2 d hk2 hs2 hd z
  · have eo : oN (updN N (52 + (16 * k + 8 * s + c)) v) p q = oN N p q := e9 _ (by omega)
    rw [eo, a2]
    exact w9 p q hp hq
def sdN (N : Tn) (s c : Nat) : Tn := updN N (52 + (16 * N 3 + 8 * s + c)) (sN N (N 3) s c + 1)
theorem sdN_lo {N : Tn} {s c j : Nat} (hc : c < 8) (h : j < 52 + (16 * N 3 + 8 * s) ∨ 52 + (16 * N 3 + 8 * s) + 8 ≤ j) : sdN N s c j = N j := updN_ne (by omega)
theorem sdN_sum {N : Tn} {s c : Nat} (hs : s < 2) (hc : c < 8) : sumN (sN (sdN N s c) (N 3) s) 8 = sumN (sN N (N 3) s) 8 + 1 := by
  have e : sumN (sN (sdN N s c) (N 3) s) 8 = sumN (fun i => if i = c then sN N (N 3) s c + 1 else sN N (N 3) s i) 8 := by
    refine sumN_congr (fun i hi => ?_)
    unfold sdN
    rw [sN_upd hs hc hs hi]
    by_cases r : i = c
    · rw [if_pos ⟨rfl, rfl, r⟩]
      show _ = if i = c then _ else _
      rw [if_pos r]
    · rw [if_neg (fun z => r z.2.2)]
      show _ = if i = c then _ else _
      rw [if_neg r]
  have := sumN_upd (f := sN N (N 3) s) (c := c) (v := sN N (N 3) s c + 1) 8 hc
  rw [e]
  omega
theorem wfp_sd {N : Tn} {P s c : Nat} (h : WFP N P (N 3 + 1)) (hs : s < 2) (hc : c < N 1) (h3 : sumN (sN N (N 3) s) 8 < 3) : WFP (sdN N s c) P (N 3 + 1) := by
  have h2 : WFN (updN (updN N 2 P) 3 (N 3 + 1)) := h
  have w := WFN_side (k := N 3) (s := s) (c := c) (v := sN N (N 3) s c + 1) h2 (by rw [upd2_3]; omega) hs (by rw [upd2_1]; exact hc) (by rw [wfp_sN]; omega)
  unfold WFP sdN
  rw [upd2_up (by omega)]
  exact w
theorem rw_sd {τ : Sg} {N : Tn} {s c : Nat} (hK : N 3 < 6) (hs : s < 2) (hc : c < 8) (hR : RowM τ 68 0 N) : upS τ 68 (52 + 16 * N 3 + 8 * s + c) ((sN N (N 3) s c + 1 : Nat) : Int) = rwS τ 68 0 (sdN N s c) := by
  have := rwS_up (σ := τ) (a := 68) (i := 52 + (16 * N 3 + 8 * s + c)) (v := sN N (N 3) s c + 1) (M := N) (by omega)
  rw [rwS_id hR] at this
  rw [show 52 + 16 * N 3 + 8 * s + c = 52 + (16 * N 3 + 8 * s + c) by omega]
  exact this
/-! a side on both sides -/
def SC (tx : Nat → Int) (n : Nat) (o : Po) (s i t : Nat) (N : Tn) : Prop := ∀ σ, CP σ tx n t N → ∃ σ1, (∀ (X : Nat → List Vv → List Vv → Sg → Prop) (Xr : List Vv → Sg → Prop) (Xt : Nat → Sg → Prop), Clo (Ct 7) 5 cX5_readSide (some .boolean) X Xr Xt → Xr [iV (flg o)] σ1 → X 16 [rV 14 1, iV (s : Int), iV (i : Int), uV] [] σ) ∧ CQ σ σ1 tx n o
def SR (tx : Nat → Int) (n : Nat) (r : Po) (s t : Nat) (N : Tn) : Prop := ∀ τ, RP τ tx n t N → ∃ τ1, (∀ (X : Nat → List Vv → List Vv → Sg → Prop) (Xr : List Vv → Sg → Prop) (Xt : Nat → Sg → Prop), Clo (Ct 7) 11 cX11_readSide none X Xr Xt → Xr [] τ1 → ∀ x2 : Int, X 35 [rV 20 66, iV ((52 + 16 * N 3 + 8 * s : Nat) : Int), iV x2] [] τ) ∧ RQ τ τ1 tx n r
def SW (N : Tn) (P s t : Nat) (r : Po) : Prop := ∀ p, r = .inl p → WFP p.1 P (N 3 + 1) ∧ (∀ j, j < 52 + (16 * N 3 + 8 * s) ∨ 52 + (16 * N 3 + 8 * s) + 8 ≤ j → p.1 j = N j) ∧ t ≤ p.2 ∧ (p.2 ≤ t ∨ p.2 ≤ 700)
def SG (tx : Nat → Int) (n s i t : Nat) (N : Tn) (P : Nat) : Prop := ∃ r : Po, SC tx n r s i t N ∧ SR tx n r s t N ∧ SW N P s t r
theorem stpO_sw {tx : Nat → Int} {n u s t P : Nat} {k : Int} {N : Tn} : SW N P s t (stpO tx n u k) := fun p hp => by unfold stpO at hp; cases hp
theorem side_st {tx : Nat → Int} {n s i t P : Nat} {N : Tn} (hn : n ≤ 700) (hs : s < 2) (hi : sumN (sN N (N 3) s) 8 = i) (hi3 : i ≤ 3) (hW : WFP N P (N 3 + 1)) (ih : i ≠ 3 → ∀ M : Tn, M 3 = N 3 → sumN (sN M (M 3) s) 8 = i + 1 → WFP M P (M 3 + 1) → SG tx n s (i + 1) (t + 1) M P) : SG tx n s i t N P := by
  have h8 := (wfp_1 hW).1
  have h6 := (wfp_1 hW).2.2.1
  have hK : N 3 < 6 := by omega
  have hi7 : (i : Int) < 700 := by omega
  by_cases q : tK tx n t = 2
  · have htn := tK_lt (tx := tx) (n := n) (t := t) (by omega)
    have hq2 : (tK tx n t : Int) = 2 := by omega
    have hr0 := nrN_rng N (tV tx n t)
    have inp0 : ∀ ρ : Sg, RowM ρ 68 0 N → Ct 7 MX11_inPurse [rV 20 66, iV ((52 + 16 * N 3 + 8 * s : Nat) : Int)] ρ (.inl [iV (i : Int)]) ρ := by
      intro ρ hM
      have e : sumN (fun i => N (52 + 16 * N 3 + 8 * s + i)) 8 = i := hi
      have := inPurse_R (d := 7) (b := 52 + 16 * N 3 + 8 * s) (N := N) (σ := ρ) (by decide) (by omega) hM (by rw [e]; omega)
      rw [e] at this
      exact this
    have cl : ∀ σ, CP σ tx n t N → ∀ (X : Nat → List Vv → List Vv → Sg → Prop) (Xr : List Vv → Sg → Prop) (Xt : Nat → Sg → Prop), Clo (Ct 7) 5 cX5_readSide (some .boolean) X Xr Xt → (if nrN N (tV tx n t) = -1 then (∃ (v4 : Int) (σ4 : Sg), Ct 7 MX5_stop [rV 14 1, iV 3] σ (.inl [iV v4]) σ4 ∧ ((v4 = 0 ∨ v4 = 1) ∧ Xr [iV v4] σ4)) else (if i = 3 then (∃ (v5 : Int) (σ5 : Sg), Ct 7 MX5_stop [rV 14 1, iV 4] σ (.inl [iV v5]) σ5 ∧ ((v5 = 0 ∨ v5 = 1) ∧ Xr [iV v5] σ5)) else (∃ σ6 : Sg, Ct 7 MX8_addToSide [rV 17 14, iV (N 3 : Int), iV (s : Int), iV (nrN N (tV tx n t))] σ (.inl []) σ6 ∧ (X 16 [rV 14 1, iV (s : Int), iV ((i + 1 : Nat) : Int), uV] [] (upS σ6 1 4 (w32 (σ6 1 4 + 1))))))) → X 16 [rV 14 1, iV (s : Int), iV (i : Int), uV] [] σ := by
      intro σ h X Xr Xt hC hx
      have a3 : σ 14 3 = (N 3 : Int) := h.2.1.1 3 (by decide)
      refine bX5_readSide_16 hC ?_
      rw [if_pos hi7]
      refine ⟨_, isNext_C (by decide) 2 h.1, ?_⟩
      rw [decide_eq_true hq2, if_neg (by decide), h.1.2]
      refine ⟨_, valueOf_C (by decide) h.1.1 q, _, cp_num (by decide) h8 h, ?_⟩
      by_cases y : nrN N (tV tx n t) = -1
      · rw [if_pos y] at hx ⊢
        exact hx
      · rw [if_neg y] at hx ⊢
        rw [a3, w32_s (show i < 2147483647 by omega)]
        by_cases z : i = 3
        · rw [if_pos z] at hx
          rw [if_pos (by omega)]
          exact hx
        · rw [if_neg z] at hx
          rw [if_neg (by omega)]
          exact hx
    by_cases y : nrN N (tV tx n t) = -1
    · refine ⟨stpO tx n t 3, ?_, ?_, stpO_sw⟩
      · intro σ h
        obtain ⟨σ1, c1, c2⟩ := stop_CQ (d := 7) (k := 3) (by decide) (by decide) h.1
        refine ⟨σ1, ?_, c2⟩
        intro X Xr Xt hC hr
        refine cl σ h X Xr Xt hC ?_
        rw [if_pos y]
        exact ⟨_, _, c1, Or.inl rfl, hr⟩
      · intro τ h
        have hb : blS τ tx n t 3 66 13 ≠ 0 := blS_bad (by decide)
        have hnum := isNumber_R (d := 7) (by decide) h.1 h.2.2
        rw [decide_eq_true q] at hnum
        refine ⟨blS τ tx n t 3, ?_, blS_RQ (by decide)⟩
        intro X Xr Xt hC hr x2
        refine bX11_readSide_35 hC ?_
        refine ⟨_, hnum, ?_⟩
        rw [if_neg (by decide), h.1.2.2.2.2 q]
        refine ⟨_, ctX11_coinOf (by decide) h8 h.2.1, ?_⟩
        rw [if_pos y]
        refine ⟨_, blames_R (by decide) h.1 h.2.2, _, inp0 _ (blS_row h.2.1), ?_⟩
        by_cases z : (i : Int) = 3
        · rw [if_pos z]
          refine ⟨_, blames_R0 (by decide) hb, ?_⟩
          rw [if_neg hb]
          exact hr
        · rw [if_neg z, if_neg hb]
          exact hr
    · obtain ⟨c, hcz⟩ := z_nat (show 0 ≤ nrN N (tV tx n t) by omega)
      have hc : c < N 1 := by omega
      by_cases z : i = 3
      · refine ⟨stpO tx n t 4, ?_, ?_, stpO_sw⟩
        · intro σ h
          obtain ⟨σ1, c1, c2⟩ := stop_CQ (d := 7) (k := 4) (by decide) (by decide) h.1
          refine ⟨σ1, ?_, c2⟩
          intro X Xr Xt hC hr
          refine cl σ h X Xr Xt hC ?_
          rw [if_neg y, if_pos z]
          exact ⟨_, _, c1, Or.inl rfl, hr⟩
        · intro τ h
          have hb : blS τ tx n t 4 66 13 ≠ 0 := blS_bad (by decide)
          have hnum := isNumber_R (d := 7) (by decide) h.1 h.2.2
          rw [decide_eq_true q] at hnum
          refine ⟨blS τ tx n t 4, ?_, blS_RQ (by decide)⟩
          intro X Xr Xt hC hr x2
          refine bX11_readSide_35 hC ?_
          refine ⟨_, hnum, ?_⟩
          rw [if_neg (by decide), h.1.2.2.2.2 q]
          refine ⟨_, ctX11_coinOf (by decide) h8 h.2.1, ?_⟩
          rw [if_neg y]
          refine ⟨_, inp0 _ h.2.1, ?_⟩
          rw [if_pos (by omega)]
          refine ⟨_, blames_R (by decide) h.1 h.2.2, ?_⟩
          rw [if_neg hb]
          exact hr
      · have hW2 : WFP (sdN N s c) P (N 3 + 1) := wfp_sd hW hs hc (by omega)
        have e3 : sdN N s c 3 = N 3 := sdN_lo (by omega) (by omega)
        have hh : sN N (N 3) s c ≤ sumN (sN N (N 3) s) 8 := sumN_le_one (f := sN N (N 3) s) (by omega)
        obtain ⟨r, rC, rR, rW⟩ := ih z (sdN N s c) e3 (by rw [e3, sdN_sum hs (by omega)]; omega) (by rw [e3]; exact hW2)
        refine ⟨r, ?_, ?_, fun p hp => ?_⟩
        · intro σ h
          have ad : Ct 7 MX8_addToSide [rV 17 14, iV (N 3 : Int), iV (s : Int), iV (c : Int)] σ (.inl []) (tnS σ 14 (sdN N s c)) := by
            have := addToSide_C (d := 7) (t := 14) (k := N 3) (s := s) (c := c) (N := N) (σ := σ) (by decide) hK hs (by omega) (by omega)
            rw [tnS_id h.2.1] at this
            exact this
          obtain ⟨u1, u2⟩ := cp_up (t2 := t + 1) (M := sdN N s c) h
          obtain ⟨σ1, c1, c2⟩ := rC _ u1
          refine ⟨σ1, ?_, c2.after u2⟩
          intro X Xr Xt hC hr
          refine cl σ h X Xr Xt hC ?_
          rw [if_neg y, if_neg z, hcz]
          refine ⟨_, ad, ?_⟩
          have e4 : tnS σ 14 (sdN N s c) 1 4 = (t : Int) := by rw [tnS_cell (by decide)]; exact h.1.2
          rw [e4, w32_s (show t < 2147483647 by omega)]
          exact c1 X Xr Xt hC hr
        · intro τ h
          have hnum := isNumber_R (d := 7) (by decide) h.1 h.2.2
          rw [decide_eq_true q] at hnum
          obtain ⟨s1, s2⟩ := rp_rw (M := sdN N s c) h
          obtain ⟨τ2, p1, p2, p3⟩ := rp_reads (d := 7) (by decide) hn s1
          obtain ⟨τ3, d1, d2⟩ := rR τ2 p2
          have b4 : 0 ≤ ((52 + 16 * N 3 + 8 * s + c : Nat) : Int) ∧ ((52 + 16 * N 3 + 8 * s + c : Nat) : Int) < 181 := by omega
          have b5 : 52 + 16 * N 3 + 8 * s + c < 2147483648 := by omega
          have b6 : ¬ (i : Int) = 3 := by omega
          have a4 : τ 68 (52 + 16 * N 3 + 8 * s + c) = (sN N (N 3) s c : Int) := by
            have := h.2.1 (52 + 16 * N 3 + 8 * s + c) (by omega)
            rw [Nat.zero_add] at this
            exact this
          have e5 : upS τ 68 (52 + 16 * N 3 + 8 * s + c) (w32 (τ 68 (52 + 16 * N 3 + 8 * s + c) + 1)) = rwS τ 68 0 (sdN N s c) := by
            rw [a4, w32_s (show sN N (N 3) s c < 2147483647 by omega)]
            exact rw_sd hK hs (by omega) h.2.1
          refine ⟨τ3, ?_, d2.after (s2.trans p3)⟩
          intro X Xr Xt hC hr x2
          refine bX11_readSide_35 hC ?_
          refine ⟨_, hnum, ?_⟩
          rw [if_neg (by decide), h.1.2.2.2.2 q]
          refine ⟨_, ctX11_coinOf (by decide) h8 h.2.1, ?_⟩
          rw [if_neg y, hcz]
          refine ⟨_, inp0 _ h.2.1, ?_⟩
          rw [if_neg b6, if_pos h.2.2, ← Int.natCast_add, w32_n b5, Int.toNat_natCast, e5]
          refine ⟨b4, b4, _, p1, ?_⟩
          have := d1 X Xr Xt hC hr
          rw [e3] at this
          exact this _
        · obtain ⟨y1, y2, y3, y4⟩ := rW p hp
          rw [e3] at y1 y2
          exact ⟨y1, fun j hj => by rw [y2 j hj]; exact sdN_lo (by omega) hj, by omega, by omega⟩
  · refine ⟨.inl (N, t), ?_, ?_, fun p hp => by cases hp; exact ⟨hW, fun _ _ => rfl, Nat.le_refl _, Or.inl (Nat.le_refl _)⟩⟩
    · intro σ h
      refine ⟨σ, ?_, FcP.refl σ, h⟩
      intro X Xr Xt hC hr
      refine bX5_readSide_16 hC ?_
      rw [if_pos hi7]
      refine ⟨_, isNext_C (by decide) 2 h.1, ?_⟩
      rw [decide_eq_false (by omega), if_pos (by decide)]
      exact hr
    · intro τ h
      refine ⟨τ, ?_, FrP.refl τ, h⟩
      intro X Xr Xt hC hr x2
      refine bX11_readSide_35 hC ?_
      refine ⟨_, isNumber_R (by decide) h.1 h.2.2, ?_⟩
      rw [decide_eq_false q, if_pos (by decide)]
      exact hr
theorem side_loop {tx : Nat → Int} {n s P : Nat} (hn : n ≤ 700) (hs : s < 2) : ∀ (g i t : Nat) (N : Tn), i + g = 3 → sumN (sN N (N 3) s) 8 = i → WFP N P (N 3 + 1) → SG tx n s i t N P := by
  intro g
  induction g with
  | zero =>
    intro i t N hg hi hW
    exact side_st hn hs hi (by omega) hW (fun z => absurd z (by omega))
  | succ g ih =>
    intro i t N hg hi hW
    exact side_st hn hs hi (by omega) hW (fun z M _ m2 m3 => ih (i + 1) (t + 1) M (by omega) m2 m3)
theorem side_pair {tx : Nat → Int} {n s t P : Nat} {N : Tn} (hn : n ≤ 700) (hs : s < 2) (hz : ∀ c, c < 8 → sN N (N 3) s c = 0) (hW : WFP N P (N 3 + 1)) : ∃ r : Po, (∀ σ, CP σ tx n t N → ∃ σ1, Ct 8 MX5_readSide [rV 14 1, iV (s : Int)] σ (.inl [iV (flg r)]) σ1 ∧ CQ σ σ1 tx n r) ∧ (∀ τ, RP τ tx n t N → ∃ τ1, Ct 8 MX11_readSide [rV 20 66, iV ((52 + 16 * N 3 + 8 * s : Nat) : Int)] τ (.inl []) τ1 ∧ RQ τ τ1 tx n r) ∧ SW N P s t r := by
  have h6 := (wfp_1 hW).2.2.1
  have hK : N 3 < 6 := by omega
  have s0 : sumN (sN N (N 3) s) 8 = 0 := by
    rw [sumN_zero (f := sN N (N 3) s) (Nat.zero_le 8) (fun i _ hi => hz i hi)]
    rfl
  -- the zeros
  have zer : ∀ τ, RP τ tx n t N → ∀ (X : Nat → List Vv → List Vv → Sg → Prop) (Xr : List Vv → Sg → Prop) (Xt : Nat → Sg → Prop), Clo (Ct 7) 11 cX11_readSide none X Xr Xt → (if tK tx n t = 2 then X 35 [rV 20 66, iV ((52 + 16 * N 3 + 8 * s : Nat) : Int), iV 8] [] τ else X 35 [rV 20 66, iV ((52 + 16 * N 3 + 8 * s : Nat) : Int), iV 8] [] (blS τ tx n t 2)) → X 0 [rV 20 66, iV ((52 + 16 * N 3 + 8 * s : Nat) : Int), uV] [] τ := by
    intro τ h X Xr Xt hC hx
    refine bX11_readSide_0 hC ?_
    have hnum := isNumber_R (d := 7) (by decide) h.1 h.2.2
    have key : ∀ k : Nat, k ≤ 8 → X 2 [rV 20 66, iV ((52 + 16 * N 3 + 8 * s : Nat) : Int), iV (k : Int)] [] τ := by
      refine loop_up (n := 8) (P := fun k : Nat => X 2 [rV 20 66, iV ((52 + 16 * N 3 + 8 * s : Nat) : Int), iV (k : Int)] [] τ) ?_ ?_
      · refine bX11_readSide_2 hC ?_
        rw [if_neg (by decide)]
        refine ⟨_, hnum, ?_⟩
        by_cases q : tK tx n t = 2
        · rw [if_pos q] at hx
          rw [decide_eq_true q, if_neg (by decide)]
          exact hx
        · rw [if_neg q] at hx
          rw [decide_eq_false q, if_pos (by decide)]
          exact ⟨_, blames_R (by decide) h.1 h.2.2, hx⟩
      · intro k hk ih
        refine bX11_readSide_2 hC ?_
        have ek : τ 68 (52 + 16 * N 3 + 8 * s + k) = 0 := by
          have := h.2.1 (52 + 16 * N 3 + 8 * s + k) (by omega)
          rw [Nat.zero_add] at this
          rw [this]
          exact congrArg _ (hz k hk)
        rw [if_pos (by omega), ← Int.natCast_add, w32_n (show 52 + 16 * N 3 + 8 * s + k < 2147483648 by omega), Int.toNat_natCast, ups_self ek, w32_s (show k < 2147483647 by omega)]
        exact ⟨by omega, ih⟩
    exact key 0 (Nat.zero_le _)
  by_cases q : tK tx n t = 2
  · obtain ⟨r, rC, rR, rW⟩ := side_loop (tx := tx) hn hs 3 0 t N rfl s0 hW
    refine ⟨r, ?_, ?_, rW⟩
    · intro σ h
      obtain ⟨σ1, c1, c2⟩ := rC σ h
      refine ⟨σ1, eX5_readSide (d := 7) ?_, c2⟩
      intro X Xr Xt hC hr
      refine bX5_readSide_0 hC ?_
      refine ⟨_, isNext_C (by decide) 2 h.1, ?_⟩
      rw [decide_eq_true (show (tK tx n t : Int) = 2 by omega), if_neg (by decide)]
      exact c1 X Xr Xt hC hr
    · intro τ h
      obtain ⟨τ1, c1, c2⟩ := rR τ h
      refine ⟨τ1, eX11_readSide (d := 7) ?_, c2⟩
      intro X Xr Xt hC hr
      refine zer τ h X Xr Xt hC ?_
      rw [if_pos q]
      exact c1 X Xr Xt hC hr _
  · refine ⟨stpO tx n t 2, ?_, ?_, stpO_sw⟩
    · intro σ h
      obtain ⟨σ1, c1, c2⟩ := stop_CQ (d := 7) (k := 2) (by decide) (by decide) h.1
      refine ⟨σ1, eX5_readSide (d := 7) ?_, c2⟩
      intro X Xr Xt hC hr
      refine bX5_readSide_0 hC ?_
      refine ⟨_, isNext_C (by decide) 2 h.1, ?_⟩
      rw [decide_eq_false (by omega), if_pos (by decide)]
      exact ⟨_, _, c1, Or.inl rfl, hr⟩
    · intro τ h
      refine ⟨_, eX11_readSide (d := 7) ?_, blS_RQ (k := 2) (by decide)⟩
      intro X Xr Xt hC hr
      refine zer τ h X Xr Xt hC ?_
      rw [if_neg q]
      refine bX11_readSide_35 hC ?_
      refine ⟨_, isNumber_R0 (by decide) (blS_bad (by decide)), ?_⟩
      rw [if_pos rfl]
      exact hr
