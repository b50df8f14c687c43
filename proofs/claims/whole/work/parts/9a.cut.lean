/-! the class cuts all tokens -/
theorem ups_self {σ : Sg} {a i : Nat} {v : Int} (h : σ a i = v) : upS σ a i v = σ := by
  funext b j
  unfold upS
  by_cases q : b = a ∧ j = i
  · rw [if_pos q, q.1, q.2, h]
  · rw [if_neg q]
def CutR (σ σ1 : Sg) (tx : Nat → Int) (n t p : Nat) : Prop := TxC σ1 tx n ∧ σ1 2 4 = (t : Int) ∧ σ1 2 6 = (tkE tx n p : Int) ∧ σ1 3 t = (tkK tx n p : Int) ∧ σ1 4 t = (p : Int) ∧ (tkK tx n p = 2 → σ1 5 t = tkV tx n p) ∧ (∀ j, j ≠ t → σ1 3 j = σ 3 j ∧ σ1 4 j = σ 4 j ∧ σ1 5 j = σ 5 j) ∧ ∀ b, b < 2 ∨ 5 < b → σ1 b = σ b
theorem cutR_mk {σ : Sg} {tx : Nat → Int} {n t p : Nat} {v : Int} (h : TxC σ tx n) (h4 : σ 2 4 = (t : Int)) (hv : tkK tx n p = 2 → v = tkV tx n p) : CutR σ (upS (upS (upS (upS σ 4 t (p : Int)) 5 t v) 3 t (tkK tx n p : Int)) 2 6 (tkE tx n p : Int)) tx n t p := by
  refine ⟨(((h.up (by decide) (Or.inl (by decide))).up (by decide) (Or.inl (by decide))).up (by decide) (Or.inl (by decide))).up (by decide) (by decide), ?_, ups_eq, ?_, ?_, ?_, ?_, ?_⟩
  · rw [ups_ne (by decide), ups_cell (by decide), ups_cell (by decide), ups_cell (by decide)]
    exact h4
  · rw [ups_cell (by decide), ups_eq]
  · rw [ups_cell (by decide), ups_cell (by decide), ups_cell (by decide), ups_eq]
  · intro q
    rw [ups_cell (by decide), ups_cell (by decide), ups_eq]
    exact hv q
  · intro j hj
    refine ⟨?_, ?_, ?_⟩
    · rw [ups_cell (by decide), ups_ne (Or.inr hj), ups_cell (by decide), ups_cell (by decide)]
    · rw [ups_cell (by decide), ups_cell (by decide), ups_cell (by decide), ups_ne (Or.inr hj)]
    · rw [ups_cell (by decide), ups_cell (by decide), ups_ne (Or.inr hj), ups_cell (by decide)]
  · intro b hb
    rw [ups_cell (by omega), ups_cell (by omega), ups_cell (by omega), ups_cell (by omega)]
theorem cutOne_C {d : Nat} (hd : 7 ≤ d) {σ : Sg} {tx : Nat → Int} {n t p : Nat} (hn : n ≤ 700) (h : TxC σ tx n) (h4 : σ 2 4 = (t : Int)) (h6 : σ 2 6 = (p : Int)) (ht : t < 701) (hp : p < n) : ∃ σ1, Ct d MX7_cutOne [rV 16 2] σ (.inl []) σ1 ∧ CutR σ σ1 tx n t p := by
  obtain ⟨M, hM⟩ : ∃ M, M = upS (upS σ 4 t (p : Int)) 5 t 0 := ⟨_, rfl⟩
  have a1 : upS σ 4 t (p : Int) 2 4 = (t : Int) := by rw [ups_cell (by decide)]; exact h4
  have m4 : M 2 4 = (t : Int) := by rw [hM, ups_cell (by decide)]; exact a1
  have m6 : M 2 6 = (p : Int) := by rw [hM, ups_cell (by decide), ups_cell (by decide)]; exact h6
  have mT : TxC M tx n := by rw [hM]; exact (h.up (by decide) (Or.inl (by decide))).up (by decide) (Or.inl (by decide))
  have mm : upS M 2 6 (p : Int) = M := ups_self m6
  have hE := tkE_b (tx := tx) hp
  have pre : ∀ (X : Nat → List Vv → List Vv → Sg → Prop) (Xr : List Vv → Sg → Prop) (Xt : Nat → Sg → Prop), Clo (Ct 6) 7 cX7_cutOne none X Xr Xt → (if ltrB (tx p) = true then (∃ σ7 : Sg, Ct 6 MX7_skipLetters [rV 16 2] M (.inl []) σ7 ∧ ((0 ≤ σ7 2 4 ∧ σ7 2 4 < 701) ∧ ∃ v8 : Int, Ct 6 MX7_kindOfWord [rV 16 2, iV (σ7 4 (σ7 2 4).toNat)] σ7 (.inl [iV v8]) σ7 ∧ ((0 ≤ σ7 2 4 ∧ σ7 2 4 < 701) ∧ Xr [] (upS σ7 3 (σ7 2 4).toNat v8)))) else if digB (tx p) = true then (∃ v6 : Int, ∃ σ6 : Sg, Ct 6 MX7_readDigits [rV 16 2] M (.inl [iV v6]) σ6 ∧ ((0 ≤ (t : Int) ∧ (t : Int) < 701) ∧ ((0 ≤ (upS σ6 5 t v6) 2 4 ∧ (upS σ6 5 t v6) 2 4 < 701) ∧ (if (3 : Int) < w32 ((upS σ6 5 t v6) 2 6 - (upS σ6 5 t v6) 4 ((upS σ6 5 t v6) 2 4).toNat) then ((0 ≤ (upS σ6 5 t v6) 2 4 ∧ (upS σ6 5 t v6) 2 4 < 701) ∧ Xr [] (upS (upS σ6 5 t v6) 3 ((upS σ6 5 t v6) 2 4).toNat 1)) else ((0 ≤ (upS σ6 5 t v6) 2 4 ∧ (upS σ6 5 t v6) 2 4 < 701) ∧ Xr [] (upS (upS σ6 5 t v6) 3 ((upS σ6 5 t v6) 2 4).toNat 2)))))) else (if tx p = 59 then Xr [] (upS (upS M 3 t 3) 2 6 ((p + 1 : Nat) : Int)) else Xr [] (upS (upS M 3 t 1) 2 6 ((p + 1 : Nat) : Int)))) → X 0 [rV 16 2] [] σ := by
    intro X Xr Xt hC hx
    have hs : Ct 6 MX7_signAt [rV 16 2, iV (p : Int)] M (.inl [iV (tx p)]) M := signAt_C (by decide) hn mT hp
    have b3 : ∀ v : Int, upS M 3 t v 2 6 = (p : Int) := fun v => by rw [ups_cell (by decide)]; exact m6
    refine bX7_cutOne_0 hC ?_
    rw [h4, h6, Int.toNat_natCast, a1, Int.toNat_natCast, ← hM, m6, m4, Int.toNat_natCast]
    refine ⟨by omega, by omega, _, hs, _, isLetter_C (by decide), ?_⟩
    cases q : ltrB (tx p) with
    | true =>
      rw [q, if_pos rfl] at hx
      rw [if_neg (by decide)]
      exact hx
    | false =>
      rw [q, if_neg (by decide)] at hx
      rw [if_pos (by decide)]
      refine ⟨_, hs, _, isDigit_C (by decide), ?_⟩
      cases q2 : digB (tx p) with
      | true =>
        rw [q2, if_pos rfl] at hx
        rw [if_neg (by decide)]
        exact hx
      | false =>
        rw [q2, if_neg (by decide)] at hx
        rw [if_pos (by decide)]
        refine ⟨_, hs, ?_⟩
        rw [b3, b3, w32_s (show p < 2147483647 by omega)]
        by_cases q3 : tx p = 59
        · rw [if_pos q3] at hx ⊢
          exact ⟨by omega, hx⟩
        · rw [if_neg q3] at hx ⊢
          exact ⟨by omega, hx⟩
  cases q : ltrB (tx p) with
  | true =>
    have eE : tkE tx n p = skp ltrB tx n p := by unfold tkE; rw [if_pos q]
    have eK : tkK tx n p = kwd tx p (tkE tx n p) := by unfold tkK; rw [if_pos q]
    have s1 := skipLetters_C (d := 6) (by decide) hn mT (Nat.le_of_lt hp)
    rw [mm, ← eE] at s1
    have u4 : upS M 2 6 (tkE tx n p : Int) 2 4 = (t : Int) := by rw [ups_ne (by decide)]; exact m4
    have u0 : upS M 2 6 (tkE tx n p : Int) 4 t = (p : Int) := by rw [ups_cell (by decide), hM, ups_cell (by decide), ups_eq]
    have s2 := kindOfWord_C (d := 6) (σ := upS M 2 6 (tkE tx n p : Int)) (b := p) (e := tkE tx n p) (by decide) hn (mT.up (by decide) (by decide)) ups_eq hE.2 (Nat.le_of_lt hE.1)
    rw [← eK] at s2
    refine ⟨_, (eX7_cutOne (d := 6) ?_).mono hd, cutR_mk (v := 0) h h4 (fun z => ?_)⟩
    · intro X Xr Xt hC hr
      refine pre X Xr Xt hC ?_
      rw [q, if_pos rfl]
      refine ⟨_, s1, ?_⟩
      rw [u4, Int.toNat_natCast, u0]
      refine ⟨by omega, _, s2, by omega, ?_⟩
      rw [ups_comm (show (2 : Nat) ≠ 3 by decide), hM]
      exact hr
    · exfalso
      rw [eK] at z
      unfold kwd at z
      revert z
      repeat' split
      all_goals exact fun z => absurd z (by decide)
  | false =>
    cases q2 : digB (tx p) with
    | true =>
      have eE : tkE tx n p = skp digB tx n p := by unfold tkE; rw [if_neg (by rw [q]; decide), if_pos q2]
      have eK : tkK tx n p = if p + 3 < tkE tx n p then 1 else 2 := by unfold tkK; rw [if_neg (by rw [q]; decide), if_pos q2]
      obtain ⟨v, s1, s2⟩ := readDigits_C (d := 6) (by decide) hn mT (Nat.le_of_lt hp)
      rw [mm, ← eE] at s1
      rw [← eE] at s2
      have u4 : upS (upS M 2 6 (tkE tx n p : Int)) 5 t v 2 4 = (t : Int) := by rw [ups_cell (by decide), ups_ne (by decide)]; exact m4
      have u6 : upS (upS M 2 6 (tkE tx n p : Int)) 5 t v 2 6 = (tkE tx n p : Int) := by rw [ups_cell (by decide), ups_eq]
      have u0 : upS (upS M 2 6 (tkE tx n p : Int)) 5 t v 4 t = (p : Int) := by rw [ups_cell (by decide), ups_cell (by decide), hM, ups_cell (by decide), ups_eq]
      refine ⟨_, (eX7_cutOne (d := 6) ?_).mono hd, cutR_mk (v := v) h h4 (fun z => ?_)⟩
      · intro X Xr Xt hC hr
        refine pre X Xr Xt hC ?_
        rw [q, if_neg (by decide), q2, if_pos rfl]
        refine ⟨_, _, s1, by omega, ?_⟩
        rw [u4, Int.toNat_natCast, u6, u0, show (tkE tx n p : Int) - (p : Int) = ((tkE tx n p - p : Nat) : Int) by omega, w32_n (show tkE tx n p - p < 2147483648 by omega)]
        have fin : ∀ k : Int, upS (upS (upS M 2 6 (tkE tx n p : Int)) 5 t v) 3 t k = upS (upS (upS (upS σ 4 t (p : Int)) 5 t v) 3 t k) 2 6 (tkE tx n p : Int) := by
          intro k
          rw [ups_comm (show (2 : Nat) ≠ 5 by decide), ups_comm (show (2 : Nat) ≠ 3 by decide), hM, ups_66]
        rw [fin, fin]
        refine ⟨by omega, ?_⟩
        rw [eK] at hr
        by_cases z : p + 3 < tkE tx n p
        · rw [if_pos z] at hr
          rw [if_pos (by omega)]
          exact ⟨by omega, hr⟩
        · rw [if_neg z] at hr
          rw [if_neg (by omega)]
          exact ⟨by omega, hr⟩
      · rw [eK] at z
        by_cases y : p + 3 < tkE tx n p
        · rw [if_pos y] at z; exact absurd z (by decide)
        · exact s2 (by omega)
    | false =>
      have eE : tkE tx n p = p + 1 := by unfold tkE; rw [if_neg (by rw [q]; decide), if_neg (by rw [q2]; decide)]
      have eK : tkK tx n p = if tx p = 59 then 3 else 1 := by unfold tkK; rw [if_neg (by rw [q]; decide), if_neg (by rw [q2]; decide)]
      refine ⟨_, (eX7_cutOne (d := 6) ?_).mono hd, cutR_mk (v := 0) h h4 (fun z => ?_)⟩
      · intro X Xr Xt hC hr
        refine pre X Xr Xt hC ?_
        rw [q, if_neg (by decide), q2, if_neg (by decide), hM]
        rw [eK, eE] at hr
        by_cases z : tx p = 59
        · rw [if_pos z] at hr ⊢; exact hr
        · rw [if_neg z] at hr ⊢; exact hr
      · exfalso
        rw [eK] at z
        by_cases y : tx p = 59
        · rw [if_pos y] at z; exact absurd z (by decide)
        · rw [if_neg y] at z; exact absurd z (by decide)
/-- the tokens of the text lie in the class's rows -/
def TkC (σ : Sg) (tx : Nat → Int) (n : Nat) : Prop := ∃ m : Nat, m ≤ 700 ∧ σ 2 4 = (m : Int) ∧ σ 2 5 = (n : Int) ∧ tkP tx n m = n ∧ ∀ j, j < m → tkP tx n j < n ∧ σ 3 j = (tK tx n j : Int) ∧ σ 4 j = (tkP tx n j : Int) ∧ (tK tx n j = 2 → σ 5 j = tV tx n j)
theorem TkC.fr {σ τ : Sg} {tx : Nat → Int} {n : Nat} (h : TkC σ tx n) (f : ∀ b, 2 ≤ b → b ≤ 5 → τ b = σ b) : TkC τ tx n := by
  obtain ⟨m, h1, h2, h3, h4, h5⟩ := h
  refine ⟨m, h1, by rw [f 2 (by decide) (by decide)]; exact h2, by rw [f 2 (by decide) (by decide)]; exact h3, h4, fun j hj => ?_⟩
  rw [f 3 (by decide) (by decide), f 4 (by decide) (by decide), f 5 (by decide) (by decide)]
  exact h5 j hj
theorem tkP_n {tx : Nat → Int} {n m t : Nat} (h : tkP tx n m = n) (ht : m ≤ t) : tkP tx n t = n := by
  have := tkP_end h (t - m)
  rw [show m + (t - m) = t by omega] at this
  exact this
theorem kindOf_C {d : Nat} (hd : 1 ≤ d) {σ : Sg} {tx : Nat → Int} {n t : Nat} (h : TkC σ tx n) : Ct d MX7_kindOf [rV 16 2, iV (t : Int)] σ (.inl [iV (tK tx n t : Int)]) σ := by
  obtain ⟨m, h1, h2, h3, h4, h5⟩ := h
  refine (eX7_kindOf (d := 0) ?_).mono hd
  intro X Xr Xt hC hr
  refine bX7_kindOf_0 hC ?_
  rw [if_neg (by omega), h2]
  by_cases q : t < m
  · rw [if_pos (by omega), Int.toNat_natCast, (h5 t q).2.1]
    exact ⟨by omega, hr⟩
  · rw [if_neg (by omega)]
    have e : tK tx n t = 0 := by unfold tK; rw [tkP_n h4 (by omega), if_neg (Nat.lt_irrefl _)]
    rw [e] at hr
    exact hr
theorem startOf_C {d : Nat} (hd : 1 ≤ d) {σ : Sg} {tx : Nat → Int} {n t : Nat} (h : TkC σ tx n) : Ct d MX7_startOf [rV 16 2, iV (t : Int)] σ (.inl [iV (tkP tx n t : Int)]) σ := by
  obtain ⟨m, h1, h2, h3, h4, h5⟩ := h
  refine (eX7_startOf (d := 0) ?_).mono hd
  intro X Xr Xt hC hr
  refine bX7_startOf_0 hC ?_
  rw [if_neg (by omega), h2, h3]
  by_cases q : t < m
  · rw [if_pos (by omega), Int.toNat_natCast, (h5 t q).2.2.1]
    exact ⟨by omega, hr⟩
  · rw [if_neg (by omega)]
    rw [tkP_n h4 (by omega)] at hr
    exact hr
theorem valueOf_C {d : Nat} (hd : 1 ≤ d) {σ : Sg} {tx : Nat → Int} {n t : Nat} (h : TkC σ tx n) (hk : tK tx n t = 2) : Ct d MX7_valueOf [rV 16 2, iV (t : Int)] σ (.inl [iV (tV tx n t)]) σ := by
  obtain ⟨m, h1, h2, h3, h4, h5⟩ := h
  refine (eX7_valueOf (d := 0) ?_).mono hd
  intro X Xr Xt hC hr
  refine bX7_valueOf_0 hC ?_
  rw [if_neg (by omega), h2]
  by_cases q : t < m
  · rw [if_pos (by omega), Int.toNat_natCast, (h5 t q).2.2.2 hk]
    exact ⟨by omega, hr⟩
  · exfalso
    unfold tK at hk
    rw [tkP_n h4 (by omega), if_neg (Nat.lt_irrefl _)] at hk
    exact absurd hk (by decide)
theorem cutAll_C {d : Nat} (hd : 9 ≤ d) {σ : Sg} {tx : Nat → Int} {n : Nat} (hn : n ≤ 700) (h : ∀ j, j < n → σ 6 j = tx j) : ∃ σ1, Ct d MX7_cutAll [rV 16 2, rV 1000700 6, iV (n : Int)] σ (.inl []) σ1 ∧ TkC σ1 tx n ∧ ∀ b, (b < 2 ∨ 5 < b) ∧ b ≠ 87 → σ1 b = σ b := by
  have key : ∀ r t : Nat, t + r = 700 → ∀ μ : Sg, TxC μ tx n → μ 2 4 = (t : Int) → μ 2 6 = (tkP tx n t : Int) → (∀ j, j < t → tkP tx n j < n ∧ μ 3 j = (tK tx n j : Int) ∧ μ 4 j = (tkP tx n j : Int) ∧ (tK tx n j = 2 → μ 5 j = tV tx n j)) → ∃ σ1, (∀ (X : Nat → List Vv → List Vv → Sg → Prop) (Xr : List Vv → Sg → Prop) (Xt : Nat → Sg → Prop), Clo (Ct 8) 7 cX7_cutAll none X Xr Xt → Xr [] σ1 → X 50 [rV 16 2, rV 1000700 6, iV (n : Int)] [] μ) ∧ TkC σ1 tx n ∧ ∀ b, b < 2 ∨ 5 < b → σ1 b = μ b := by
    intro r
    induction r with
    | zero =>
      intro t ht μ hT h4 h6 hrow
      have ht : t = 700 := ht
      have e : tkP tx n t = n := by
        have h1 := tkP_le (tx := tx) (n := n) t
        by_cases q : tkP tx n t < n
        · have := tkP_t t q; omega
        · omega
      refine ⟨μ, ?_, ⟨t, by omega, h4, hT.1, e, hrow⟩, fun _ _ => rfl⟩
      intro X Xr Xt hC hr
      refine bX7_cutAll_50 hC ?_
      rw [h4, if_neg (by omega)]
      exact hr
    | succ r ih =>
      intro t ht μ hT h4 h6 hrow
      by_cases q : tkP tx n t < n
      · obtain ⟨μ1, c1, c2, c3, c4, c5, c6, c7, c8, c9⟩ := cutOne_C (d := 8) (t := t) (p := tkP tx n t) (by decide) hn hT h4 h6 (by omega) q
        have hE := tkE_b (tx := tx) q
        have s1 := skipBlanks_C (d := 8) (p := tkE tx n (tkP tx n t)) (by decide) hn c2 hE.2
        rw [ups_self c4] at s1
        have eP : skp blkB tx n (tkE tx n (tkP tx n t)) = tkP tx n (t + 1) := by rw [tkP_s, if_pos q]
        rw [eP] at s1
        have eK : tkK tx n (tkP tx n t) = tK tx n t := by unfold tK; rw [if_pos q]
        rw [eK] at c5 c7
        have u4 : upS μ1 2 6 (tkP tx n (t + 1) : Int) 2 4 = (t : Int) := by rw [ups_ne (by decide)]; exact c3
        obtain ⟨σ1, d1, d2, d3⟩ := ih (t + 1) (by omega) (upS (upS μ1 2 6 (tkP tx n (t + 1) : Int)) 2 4 ((t + 1 : Nat) : Int)) ((c2.up (by decide) (by decide)).up (by decide) (by decide)) ups_eq (by rw [ups_ne (by decide)]; exact ups_eq) (fun j hj => by
          rw [ups_cell (by decide), ups_cell (by decide), ups_cell (by decide), ups_cell (by decide), ups_cell (by decide), ups_cell (by decide)]
          by_cases z : j = t
          · rw [z]; exact ⟨q, c5, c6, c7⟩
          · obtain ⟨w1, w2, w3⟩ := c8 j z
            rw [w1, w2, w3]
            exact hrow j (by omega))
        refine ⟨σ1, ?_, d2, fun b hb => by rw [d3 b hb, ups_cell (by omega), ups_cell (by omega), c9 b hb]⟩
        intro X Xr Xt hC hr
        refine bX7_cutAll_50 hC ?_
        rw [h4, if_pos (by omega), h6, hT.1, if_pos (by omega)]
        refine ⟨_, c1, _, s1, ?_⟩
        rw [u4, w32_s (show t < 2147483647 by omega)]
        exact d1 X Xr Xt hC hr
      · have e : tkP tx n t = n := by have := tkP_le (tx := tx) (n := n) t; omega
        refine ⟨μ, ?_, ⟨t, by omega, h4, hT.1, e, hrow⟩, fun _ _ => rfl⟩
        intro X Xr Xt hC hr
        refine bX7_cutAll_50 hC ?_
        rw [h4, if_pos (by omega), h6, hT.1, if_neg (by omega)]
        exact hr
  obtain ⟨M, hM⟩ : ∃ M, M = upS (cpS (upS σ 2 5 (n : Int)) 6 0 87 0 n) 2 6 0 := ⟨_, rfl⟩
  have hT : TxC M tx n := by
    rw [hM]
    refine ⟨by rw [ups_ne (by decide), cps_cell (by decide), ups_eq], fun j hj => ?_⟩
    rw [ups_cell (by decide), cps_in hj, ups_cell (by decide)]
    exact h j hj
  have m6 : M 2 6 = ((0 : Nat) : Int) := by rw [hM, ups_eq]; rfl
  have s1 := skipBlanks_C (d := 8) (p := 0) (by decide) hn hT (Nat.zero_le _)
  rw [ups_self m6] at s1
  obtain ⟨σ1, d1, d2, d3⟩ := key 700 0 (by decide) (upS (upS M 2 6 (skp blkB tx n 0 : Int)) 2 4 0) ((hT.up (by decide) (by decide)).up (by decide) (by decide)) (by rw [ups_eq]; rfl) (by rw [ups_ne (by decide)]; exact ups_eq) (fun j hj => absurd hj (Nat.not_lt_zero j))
  refine ⟨σ1, (eX7_cutAll (d := 8) ?_).mono hd, d2, fun b hb => by rw [d3 b hb.1, ups_cell (by omega), ups_cell (by omega), hM, ups_cell (by omega), cps_cell (by omega), ups_cell (by omega)]⟩
  intro X Xr Xt hC hr
  refine bX7_cutAll_0 hC ?_
  rw [show max 0 (min (n : Int) (min 700 700)) = (n : Int) by omega, ups_eq, Int.toNat_natCast, ← hM]
  exact ⟨⟨by omega, by omega, by omega, by omega, by omega⟩, _, s1, d1 X Xr Xt hC hr⟩
