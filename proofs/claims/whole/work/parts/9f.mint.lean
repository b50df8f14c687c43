/-! the mint's line -/
theorem tV_b {tx : Nat → Int} {n t : Nat} (h : tK tx n t = 2) : 0 ≤ tV tx n t ∧ tV tx n t < 1000 := by
  unfold tK at h
  by_cases q : tkP tx n t < n
  · rw [if_pos q] at h
    unfold tV tkV
    obtain ⟨P, hP⟩ : ∃ P, P = tkP tx n t := ⟨_, rfl⟩
    rw [← hP] at h q ⊢
    unfold tkK at h
    by_cases l : ltrB (tx P) = true
    · rw [if_pos l] at h
      have := kwd_ge (tx := tx) (b := P) (e := tkE tx n P)
      omega
    · rw [if_neg l] at h
      by_cases g : digB (tx P) = true
      · rw [if_pos g] at h
        by_cases z : P + 3 < tkE tx n P
        · rw [if_pos z] at h; exact absurd h (by decide)
        · have eE : tkE tx n P = skp digB tx n P := by unfold tkE; rw [if_neg l, if_pos g]
          have b := valD_b (tx := tx) (b := P) (tkE tx n P - P) (by omega) (fun j hj => scn_in (n - P) P (P + j) (by omega) (by
            have e2 : skp digB tx n P = scn digB tx (n - P) P := rfl
            rw [← e2, ← eE]
            omega))
          have b2 : (10 : Int) ^ (tkE tx n P - P) ≤ 1000 := by
            rcases (show tkE tx n P - P = 0 ∨ tkE tx n P - P = 1 ∨ tkE tx n P - P = 2 ∨ tkE tx n P - P = 3 by omega) with z | z | z | z <;> rw [z] <;> decide
          omega
      · rw [if_neg g] at h
        by_cases z : tx P = 59
        · rw [if_pos z] at h; exact absurd h (by decide)
        · rw [if_neg z] at h; exact absurd h (by decide)
  · rw [if_neg q] at h
    exact absurd h (by decide)
def prN (N : Tn) (v : Int) : Tn := updN (updN N (4 + N 1) v.toNat) 1 (N 1 + 1)
def prO (tx : Nat → Int) (n t : Nat) (N : Tn) : Po := if tK tx n t = 2 then (if smallP (tV tx n t) = true ∧ nrN N (tV tx n t) = -1 then (if N 1 = 8 then stpO tx n t 4 else .inl (prN N (tV tx n t), t + 1)) else stpO tx n t 3) else stpO tx n t 2
theorem within_R {d : Nat} (hd : 1 ≤ d) {x : Int} {σ : Sg} : Ct d MX11_within [lV x, lV 2, lV 97] σ (.inl [iV (b01 (decide (2 ≤ x ∧ x ≤ 97)))]) σ := ctX11_within hd
theorem readPrime_R {d : Nat} (hd : 6 ≤ d) {τ : Sg} {tx : Nat → Int} {n t : Nat} {N : Tn} (hn : n ≤ 700) (h8 : N 1 ≤ 8) (h : RP τ tx n t N) : ∃ τ1, Ct d MX11_readPrime [rV 20 66] τ (.inl []) τ1 ∧ RQ τ τ1 tx n (prO tx n t N) := by
  have a1 : τ 68 1 = (N 1 : Int) := h.2.1 1 (by decide)
  have hnum := isNumber_R (d := 5) (by decide) h.1 h.2.2
  by_cases q : tK tx n t = 2
  · rw [decide_eq_true q] at hnum
    obtain ⟨v0, v1⟩ := tV_b q
    have av : τ 66 12 = tV tx n t := h.1.2.2.2.2 q
    obtain ⟨v, hv⟩ := z_nat v0
    have v9 : v ≤ 1000000000 := by omega
    -- a fault of kind 3
    obtain ⟨τ3, b1, b2⟩ := blames_RQ (d := 5) (k := 3) (by decide) (by decide) h.1 h.2.2
    have hb : τ3 66 13 ≠ 0 := by rw [b2.2.2.1]; exact b2.2.1
    by_cases p : smallP (tV tx n t) = true ∧ nrN N (tV tx n t) = -1
    · have hin : 2 ≤ tV tx n t ∧ tV tx n t ≤ 97 := by
        by_cases z : 2 ≤ tV tx n t ∧ tV tx n t ≤ 97
        · exact z
        · rw [smallP_big z] at p; exact absurd p.1 (by decide)
      have hip : isPr v = true := by
        have v98 : v < 98 := by omega
        have sn : smallP (v : Int) = isPr v := smallP_nat ⟨v, v98⟩
        rw [← sn]
        rw [← hv]
        exact p.1
      have pre : ∀ (X : Nat → List Vv → List Vv → Sg → Prop) (Xr : List Vv → Sg → Prop) (Xt : Nat → Sg → Prop), Clo (Ct 5) 11 cX11_readPrime none X Xr Xt → (if N 1 = 8 then (∃ σ14 : Sg, Ct 5 MX11_blames [rV 20 66, iV 4] τ (.inl []) σ14 ∧ σ14 66 13 ≠ 0 ∧ Xr [] σ14) else (∃ σ16 : Sg, Ct 5 MX11_reads [rV 20 66] (upS (upS τ 68 (4 + N 1) (v : Int)) 68 1 ((N 1 + 1 : Nat) : Int)) (.inl []) σ16 ∧ Xr [] σ16)) → X 0 [rV 20 66] [] τ := by
        intro X Xr Xt hC hx
        refine bX11_readPrime_0 hC ?_
        refine ⟨_, hnum, ?_⟩
        rw [if_neg (by decide), av]
        refine ⟨_, within_R (by decide), ?_⟩
        rw [decide_eq_true hin, if_neg (by decide), hv]
        refine ⟨_, ctX11_isPrime (by decide) v9, ?_⟩
        rw [hip, if_neg (by decide)]
        refine ⟨_, ctX11_coinOf (by decide) h8 h.2.1, ?_⟩
        have ec : nrN N (v : Int) = -1 := by rw [← hv]; exact p.2
        rw [ec, if_pos rfl, a1]
        by_cases z : N 1 = 8
        · rw [if_pos z] at hx
          obtain ⟨σ14, c1, c2, c3⟩ := hx
          rw [if_pos (by omega)]
          refine ⟨_, c1, ?_⟩
          rw [if_neg c2]
          exact c3
        · rw [if_neg z] at hx
          have hz : (N 1 : Int) ≠ 8 := by omega
          have hb4 : 0 ≤ ((4 + N 1 : Nat) : Int) ∧ ((4 + N 1 : Nat) : Int) < 181 := by omega
          have hw : N 1 < 2147483647 := by omega
          have e4 : w32 (4 + (N 1 : Int)) = ((4 + N 1 : Nat) : Int) := by unfold w32; omega
          have h14 : (1 : Nat) ≠ 4 + N 1 := by clear e4; omega
          have e5 : ∀ w : Int, upS τ 68 (4 + N 1) w 68 1 = (N 1 : Int) := fun w => by rw [ups_ne (Or.inr h14)]; exact a1
          rw [if_neg hz, if_pos h.2.2, e4, Int.toNat_natCast, e5, w32_s hw]
          exact ⟨hb4, hx⟩
      by_cases z : N 1 = 8
      · have eo : prO tx n t N = stpO tx n t 4 := by unfold prO; rw [if_pos q, if_pos p, if_pos z]
        obtain ⟨τ4, c1, c2⟩ := blames_RQ (d := 5) (k := 4) (by decide) (by decide) h.1 h.2.2
        rw [eo]
        refine ⟨τ4, (eX11_readPrime (d := 5) ?_).mono hd, c2⟩
        intro X Xr Xt hC hr
        refine pre X Xr Xt hC ?_
        rw [if_pos z]
        exact ⟨_, c1, by rw [c2.2.2.1]; exact c2.2.1, hr⟩
      · have eo : prO tx n t N = .inl (prN N (tV tx n t), t + 1) := by unfold prO; rw [if_pos q, if_pos p, if_neg z]
        have em : upS (upS τ 68 (4 + N 1) (v : Int)) 68 1 ((N 1 + 1 : Nat) : Int) = rwS τ 68 0 (prN N (tV tx n t)) := by
          have m1 := rwS_up (σ := τ) (a := 68) (i := 4 + N 1) (v := v) (M := N) (by omega)
          rw [rwS_id h.2.1] at m1
          rw [m1, rwS_up (by decide)]
          unfold prN
          rw [hv, Int.toNat_natCast]
        obtain ⟨d1, d2⟩ := rp_rw (M := prN N (tV tx n t)) h
        obtain ⟨τ1, c1, c2, c3⟩ := rp_reads (d := 5) (by decide) hn d1
        rw [eo]
        refine ⟨τ1, (eX11_readPrime (d := 5) ?_).mono hd, d2.trans c3, c2⟩
        intro X Xr Xt hC hr
        refine pre X Xr Xt hC ?_
        rw [if_neg z, em]
        exact ⟨_, c1, hr⟩
    · have eo : prO tx n t N = stpO tx n t 3 := by unfold prO; rw [if_pos q, if_neg p]
      rw [eo]
      refine ⟨τ3, (eX11_readPrime (d := 5) ?_).mono hd, b2⟩
      intro X Xr Xt hC hr
      refine bX11_readPrime_0 hC ?_
      refine ⟨_, hnum, ?_⟩
      rw [if_neg (by decide), av]
      refine ⟨_, within_R (by decide), ?_⟩
      by_cases y : 2 ≤ tV tx n t ∧ tV tx n t ≤ 97
      · rw [decide_eq_true y, if_neg (by decide), hv]
        refine ⟨_, ctX11_isPrime (by decide) v9, ?_⟩
        cases g : isPr v with
        | false =>
          rw [if_pos (by decide)]
          refine ⟨_, b1, ?_⟩
          by_cases w : τ3 68 1 = 8
          · rw [if_pos w]
            refine ⟨_, blames_R0 (by decide) hb, ?_⟩
            rw [if_neg hb]; exact hr
          · rw [if_neg w, if_neg hb]; exact hr
        | true =>
          rw [if_neg (by decide)]
          refine ⟨_, ctX11_coinOf (by decide) h8 h.2.1, ?_⟩
          have hsm : smallP (tV tx n t) = true := by
            have v98 : v < 98 := by omega
            have sn : smallP (v : Int) = isPr v := smallP_nat ⟨v, v98⟩
            rw [hv, sn]
            exact g
          rw [if_neg (fun z => p ⟨hsm, by rw [hv]; exact z⟩)]
          refine ⟨_, b1, ?_⟩
          by_cases w : τ3 68 1 = 8
          · rw [if_pos w]
            refine ⟨_, blames_R0 (by decide) hb, ?_⟩
            rw [if_neg hb]; exact hr
          · rw [if_neg w, if_neg hb]; exact hr
      · rw [decide_eq_false y, if_pos (by decide)]
        refine ⟨_, b1, ?_⟩
        by_cases w : τ3 68 1 = 8
        · rw [if_pos w]
          refine ⟨_, blames_R0 (by decide) hb, ?_⟩
          rw [if_neg hb]; exact hr
        · rw [if_neg w, if_neg hb]; exact hr
  · rw [decide_eq_false q] at hnum
    have eo : prO tx n t N = stpO tx n t 2 := if_neg q
    rw [eo]
    obtain ⟨τ1, c1, c2⟩ := blames_RQ (d := 5) (k := 2) (by decide) (by decide) h.1 h.2.2
    refine ⟨τ1, (eX11_readPrime (d := 5) ?_).mono hd, c2⟩
    intro X Xr Xt hC hr
    refine bX11_readPrime_0 hC ?_
    refine ⟨_, hnum, ?_⟩
    rw [if_pos (by decide)]
    exact ⟨_, c1, hr⟩
