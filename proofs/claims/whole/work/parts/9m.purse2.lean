/-! a coin of a purse: the class -/
theorem readTimes_C {d : Nat} (hd : 4 ≤ d) {σ : Sg} {tx : Nat → Int} {n t K c : Nat} {N : Tn} (ht : t < 100000) (hW : WFP N (N 2 + 1) K) (hc : c < N 1) (h9 : sumN (hN N (N 2)) 8 ≠ 9) (h : CP σ tx n (t + 1) (cuN N c 1)) : ∃ σ1, Ct d MX5_readTimes [rV 14 1, iV (c : Int)] σ (.inl [iV (flg (tmO tx n t N c))]) σ1 ∧ CQ σ σ1 tx n (tmO tx n t N c) := by
  have h5 := (wfp_1 hW).2.1
  have h8 := (wfp_1 hW).1
  have hP : N 2 < 5 := by omega
  have hs := wfp_hs hW hP
  have hW1 : WFP (cuN N c 1) (N 2 + 1) K := wfp_cm hW hc (by omega)
  have hs1 := cuN_sum (N := N) (c := c) (k := 1) (by omega)
  obtain ⟨S, hS⟩ : ∃ S, S = upS σ 1 4 (w32 (σ 1 4 + 1)) := ⟨_, rfl⟩
  have hu : CP S tx n (t + 2) (cuN N c 1) ∧ FcP σ S := by
    have := cp_up (t2 := t + 2) (M := cuN N c 1) h
    rw [tnS_id h.2.1] at this
    rw [hS, h.1.2, w32_s (show t + 1 < 2147483647 by omega)]
    exact this
  obtain ⟨u1, u2⟩ := hu
  have a2 : S 14 2 = (N 2 : Int) := by rw [u1.2.1.1 2 (by decide), cuN_2]
  have bad : ∀ k : Int, k ≠ 0 → tmO tx n t N c = stpO tx n (t + 2) k → (∀ (X : Nat → List Vv → List Vv → Sg → Prop) (Xr : List Vv → Sg → Prop) (Xt : Nat → Sg → Prop), Clo (Ct 3) 5 cX5_readTimes (some .boolean) X Xr Xt → (∃ (v : Int) (σ5 : Sg), Ct 3 MX5_stop [rV 14 1, iV k] S (.inl [iV v]) σ5 ∧ ((v = 0 ∨ v = 1) ∧ Xr [iV v] σ5)) → X 0 [rV 14 1, iV (c : Int), uV] [] σ) → ∃ σ1, Ct d MX5_readTimes [rV 14 1, iV (c : Int)] σ (.inl [iV (flg (tmO tx n t N c))]) σ1 ∧ CQ σ σ1 tx n (tmO tx n t N c) := by
    intro k hk he hx
    obtain ⟨σ1, c1, c2⟩ := stop_CQ (d := 3) (k := k) (by decide) hk u1.1
    rw [he]
    refine ⟨σ1, (eX5_readTimes (d := 3) ?_).mono hd, c2.after u2⟩
    intro X Xr Xt hC hr
    exact hx X Xr Xt hC ⟨_, _, c1, Or.inl rfl, hr⟩
  by_cases q : tK tx n (t + 2) = 2
  · have hq : (tK tx n (t + 2) : Int) = 2 := by rw [q]; rfl
    obtain ⟨v0, v1⟩ := tV_b q
    obtain ⟨v, hv⟩ := z_nat v0
    have a4 : S 1 4 = ((t + 2 : Nat) : Int) := u1.1.2
    have pre : ∀ (X : Nat → List Vv → List Vv → Sg → Prop) (Xr : List Vv → Sg → Prop) (Xt : Nat → Sg → Prop), Clo (Ct 3) 5 cX5_readTimes (some .boolean) X Xr Xt → (if (v : Int) < 1 then (∃ (v4 : Int) (σ4 : Sg), Ct 3 MX5_stop [rV 14 1, iV 3] S (.inl [iV v4]) σ4 ∧ ((v4 = 0 ∨ v4 = 1) ∧ Xr [iV v4] σ4)) else (if (9 : Int) < (v : Int) then (∃ (v5 : Int) (σ5 : Sg), Ct 3 MX5_stop [rV 14 1, iV 3] S (.inl [iV v5]) σ5 ∧ ((v5 = 0 ∨ v5 = 1) ∧ Xr [iV v5] σ5)) else (if 9 < sumN (hN N (N 2)) 8 + v then (∃ (v7 : Int) (σ7 : Sg), Ct 3 MX5_stop [rV 14 1, iV 4] S (.inl [iV v7]) σ7 ∧ ((v7 = 0 ∨ v7 = 1) ∧ Xr [iV v7] σ7)) else (∃ σ8 : Sg, Ct 3 MX8_come [rV 17 14, iV (S 14 2), iV (c : Int), iV (w32 ((v : Int) - 1))] S (.inl []) σ8 ∧ (Xr [iV 1] (upS σ8 1 4 (w32 (σ8 1 4 + 1)))))))) → X 0 [rV 14 1, iV (c : Int), uV] [] σ := by
      intro X Xr Xt hC hx
      refine bX5_readTimes_0 hC ?_
      rw [← hS]
      refine ⟨_, isNext_C (by decide) 2 u1.1, ?_⟩
      rw [decide_eq_true hq, if_neg (by decide), a4]
      refine ⟨_, valueOf_C (by decide) u1.1.1 q, ?_⟩
      rw [hv]
      by_cases y : (v : Int) < 1
      · rw [if_pos y] at hx ⊢
        exact hx
      rw [if_neg y] at hx ⊢
      by_cases z : (9 : Int) < (v : Int)
      · rw [if_pos z] at hx ⊢
        exact hx
      rw [if_neg z] at hx ⊢
      have hm := many_P (d := 3) (t := 14) (p := N 2) (by decide) hW1 hP u1.2.1
      rw [hs1] at hm
      rw [a2] at hx ⊢
      refine ⟨_, hm, ?_⟩
      have e1 : w32 (w32 (((sumN (hN N (N 2)) 8 + 1 : Nat) : Int) + (v : Int)) - 1) = ((sumN (hN N (N 2)) 8 + v : Nat) : Int) := by
        rw [← Int.natCast_add, w32_n (show sumN (hN N (N 2)) 8 + 1 + v < 2147483648 by omega), w32_m1 (by omega) (by omega)]
        congr 1
        omega
      rw [e1]
      clear e1
      by_cases w : 9 < sumN (hN N (N 2)) 8 + v
      · rw [if_pos w] at hx
        rw [if_pos (by omega)]
        exact hx
      · rw [if_neg w] at hx
        rw [if_neg (by omega)]
        exact hx
    have nv : (tV tx n (t + 2)).toNat = v := by rw [hv, Int.toNat_natCast]
    by_cases y : 1 ≤ tV tx n (t + 2) ∧ tV tx n (t + 2) ≤ 9
    · have y1 : ¬ (v : Int) < 1 := by omega
      have y2 : ¬ (9 : Int) < (v : Int) := by omega
      by_cases z : 9 < sumN (hN N (N 2)) 8 + v
      · refine bad 4 (by decide) (by unfold tmO; rw [if_pos q, if_pos y, nv, if_pos z]) ?_
        intro X Xr Xt hC hx
        refine pre X Xr Xt hC ?_
        rw [if_neg y1, if_neg y2, if_pos z]
        exact hx
      · have eo : tmO tx n t N c = .inl (cuN N c v, t + 3) := by unfold tmO; rw [if_pos q, if_pos y, nv, if_neg z]
        have hh : hN N (N 2) c ≤ sumN (hN N (N 2)) 8 := sumN_le_one (f := hN N (N 2)) (by omega)
        have cm := come_CP (d := 3) (c := c) (k := v - 1) (z := w32 ((v : Int) - 1)) (by decide) (by rw [cuN_2]; exact hP) (by omega) (w32_m1 (by omega) (by omega)) (by rw [cuN_2, cuN_at]; omega) u1
        rw [cuN_cm, show 1 + (v - 1) = v by omega] at cm
        obtain ⟨d1, d2⟩ := cp_up (t2 := t + 3) (M := cuN N c v) u1
        rw [eo]
        refine ⟨_, (eX5_readTimes (d := 3) ?_).mono hd, u2.trans d2, d1⟩
        intro X Xr Xt hC hr
        refine pre X Xr Xt hC ?_
        rw [if_neg y1, if_neg y2, if_neg z]
        refine ⟨_, cm, ?_⟩
        have e4 : tnS S 14 (cuN N c v) 1 4 = ((t + 2 : Nat) : Int) := by rw [tnS_cell (by decide)]; exact a4
        rw [e4, w32_s (show t + 2 < 2147483647 by omega)]
        exact hr
    · refine bad 3 (by decide) (by unfold tmO; rw [if_pos q, if_neg y]) ?_
      intro X Xr Xt hC hx
      refine pre X Xr Xt hC ?_
      by_cases w : (v : Int) < 1
      · rw [if_pos w]; exact hx
      · rw [if_neg w, if_pos (by omega)]; exact hx
  · refine bad 2 (by decide) (by unfold tmO; rw [if_neg q]) ?_
    intro X Xr Xt hC hx
    refine bX5_readTimes_0 hC ?_
    rw [← hS]
    refine ⟨_, isNext_C (by decide) 2 u1.1, ?_⟩
    rw [decide_eq_false (by omega), if_pos (by decide)]
    exact hx
theorem readPursed_C {d : Nat} (hd : 5 ≤ d) {σ : Sg} {tx : Nat → Int} {n t K : Nat} {N : Tn} (ht : t < 100000) (hW : WFP N (N 2 + 1) K) (q : tK tx n t = 2) (h : CP σ tx n t N) : ∃ σ1, Ct d MX5_readPursed [rV 14 1] σ (.inl [iV (flg (puO tx n t N))]) σ1 ∧ CQ σ σ1 tx n (puO tx n t N) := by
  have h5 := (wfp_1 hW).2.1
  have h8 := (wfp_1 hW).1
  have hP : N 2 < 5 := by omega
  have hs := wfp_hs hW hP
  have a2 : σ 14 2 = (N 2 : Int) := h.2.1.1 2 (by decide)
  have hm := many_P (d := 4) (t := 14) (p := N 2) (by decide) hW hP h.2.1
  have bad : ∀ k : Int, k ≠ 0 → puO tx n t N = stpO tx n t k → (∀ (X : Nat → List Vv → List Vv → Sg → Prop) (Xr : List Vv → Sg → Prop) (Xt : Nat → Sg → Prop), Clo (Ct 4) 5 cX5_readPursed (some .boolean) X Xr Xt → (∃ (v : Int) (σ5 : Sg), Ct 4 MX5_stop [rV 14 1, iV k] σ (.inl [iV v]) σ5 ∧ ((v = 0 ∨ v = 1) ∧ Xr [iV v] σ5)) → X 0 [rV 14 1, uV] [] σ) → ∃ σ1, Ct d MX5_readPursed [rV 14 1] σ (.inl [iV (flg (puO tx n t N))]) σ1 ∧ CQ σ σ1 tx n (puO tx n t N) := by
    intro k hk he hx
    obtain ⟨σ1, c1, c2⟩ := stop_CQ (d := 4) (k := k) (by decide) hk h.1
    rw [he]
    refine ⟨σ1, (eX5_readPursed (d := 4) ?_).mono hd, c2⟩
    intro X Xr Xt hC hr
    exact hx X Xr Xt hC ⟨_, _, c1, Or.inl rfl, hr⟩
  by_cases y : nrN N (tV tx n t) = -1
  · refine bad 3 (by decide) (by unfold puO; rw [if_pos y]) ?_
    intro X Xr Xt hC hx
    refine bX5_readPursed_0 hC ?_
    rw [h.1.2]
    refine ⟨_, valueOf_C (by decide) h.1.1 q, _, cp_num (by decide) h8 h, ?_⟩
    rw [if_pos y]
    exact hx
  · have hr0 := nrN_rng N (tV tx n t)
    obtain ⟨c, hcz⟩ := z_nat (show 0 ≤ nrN N (tV tx n t) by omega)
    have hc : c < N 1 := by omega
    have nc : (nrN N (tV tx n t)).toNat = c := by rw [hcz, Int.toNat_natCast]
    by_cases z : sumN (hN N (N 2)) 8 = 9
    · refine bad 4 (by decide) (by unfold puO; rw [if_neg y, if_pos z]) ?_
      intro X Xr Xt hC hx
      refine bX5_readPursed_0 hC ?_
      rw [h.1.2, a2]
      refine ⟨_, valueOf_C (by decide) h.1.1 q, _, cp_num (by decide) h8 h, ?_⟩
      rw [if_neg y]
      refine ⟨_, hm, ?_⟩
      rw [w32_s (show sumN (hN N (N 2)) 8 < 2147483647 by omega), if_pos (by omega)]
      exact hx
    · have hh : hN N (N 2) c ≤ sumN (hN N (N 2)) 8 := sumN_le_one (f := hN N (N 2)) (by omega)
      have cm := come_CP (d := 4) (c := c) (k := 1) (z := 1) (by decide) hP (by omega) rfl (by omega) h
      obtain ⟨u1, u2⟩ := cp_up (t2 := t + 1) (M := cuN N c 1) h
      have e4 : tnS σ 14 (cuN N c 1) 1 4 = (t : Int) := by rw [tnS_cell (by decide)]; exact h.1.2
      have pre : ∀ (X : Nat → List Vv → List Vv → Sg → Prop) (Xr : List Vv → Sg → Prop) (Xt : Nat → Sg → Prop), Clo (Ct 4) 5 cX5_readPursed (some .boolean) X Xr Xt → (if tK tx n (t + 1) = 7 then (∃ (v8 : Int) (σ8 : Sg), Ct 4 MX5_readTimes [rV 14 1, iV (c : Int)] (upS (tnS σ 14 (cuN N c 1)) 1 4 ((t + 1 : Nat) : Int)) (.inl [iV v8]) σ8 ∧ (if v8 = 0 then Xr [iV 0] σ8 else Xr [iV 1] σ8)) else Xr [iV 1] (upS (tnS σ 14 (cuN N c 1)) 1 4 ((t + 1 : Nat) : Int))) → X 0 [rV 14 1, uV] [] σ := by
        intro X Xr Xt hC hx
        refine bX5_readPursed_0 hC ?_
        rw [h.1.2, a2]
        refine ⟨_, valueOf_C (by decide) h.1.1 q, _, cp_num (by decide) h8 h, ?_⟩
        rw [if_neg y, hcz]
        refine ⟨_, hm, ?_⟩
        rw [w32_s (show sumN (hN N (N 2)) 8 < 2147483647 by omega), if_neg (by omega)]
        rw [a2] at cm
        refine ⟨_, cm, ?_⟩
        rw [e4, w32_s (show t < 2147483647 by omega)]
        refine ⟨_, isNext_C (by decide) 7 u1.1, ?_⟩
        by_cases w : tK tx n (t + 1) = 7
        · rw [if_pos w] at hx
          rw [decide_eq_true (show (tK tx n (t + 1) : Int) = 7 by omega), if_neg (by decide)]
          exact hx
        · rw [if_neg w] at hx
          rw [decide_eq_false (by omega), if_pos (by decide)]
          exact hx
      by_cases w : tK tx n (t + 1) = 7
      · have eo : puO tx n t N = tmO tx n t N c := by unfold puO; rw [if_neg y, if_neg z, if_pos w, nc]
        obtain ⟨σ1, c1, c2⟩ := readTimes_C (d := 4) (by decide) ht hW hc z u1
        rw [eo]
        refine ⟨σ1, (eX5_readPursed (d := 4) ?_).mono hd, c2.after u2⟩
        intro X Xr Xt hC hr
        refine pre X Xr Xt hC ?_
        rw [if_pos w]
        refine ⟨_, _, c1, ?_⟩
        rcases flg_01 (tmO tx n t N c) with g | g
        · rw [g] at hr ⊢
          rw [if_pos rfl]
          exact hr
        · rw [g] at hr ⊢
          rw [if_neg (by decide)]
          exact hr
      · have eo : puO tx n t N = .inl (cuN N c 1, t + 1) := by unfold puO; rw [if_neg y, if_neg z, if_neg w, nc]
        rw [eo]
        refine ⟨_, (eX5_readPursed (d := 4) ?_).mono hd, u2, u1⟩
        intro X Xr Xt hC hr
        refine pre X Xr Xt hC ?_
        rw [if_neg w]
        exact hr
