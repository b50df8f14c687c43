/-! where both readers stand: at token t -/
theorem isW_0 {k : Nat} {tx : Nat → Int} {b e : Nat} (hk : k < 10) (h : isW k tx b e = true) : e = b + SLen.getD k 0 ∧ tx b = schr k 0 := by
  have h6 : 0 < SLen.getD k 0 ∧ SLen.getD k 0 ≤ 6 := sl_le ⟨k, hk⟩
  unfold isW at h
  rw [Bool.and_eq_true] at h
  refine ⟨of_decide_eq_true h.1, ?_⟩
  have h2 := h.2
  rw [show SLen.getD k 0 = (SLen.getD k 0 - 1) + 1 by omega, eqF_s, Bool.and_eq_true] at h2
  exact of_decide_eq_true h2.1
theorem isW_one {j k : Nat} {tx : Nat → Int} {b e : Nat} (hj : j < 5) (hk : k < 5) (h : isW j tx b e = true) (g : isW k tx b e = true) : j = k := by
  have h1 := isW_0 (show j < 10 by omega) h
  have h2 := isW_0 (show k < 10 by omega) g
  have e1 : SLen.getD j 0 = SLen.getD k 0 := by omega
  have e2 : schr j 0 = schr k 0 := by rw [← h1.2, ← h2.2]
  have := (by decide : ∀ a b : Fin 5, SLen.getD a.val 0 = SLen.getD b.val 0 → schr a.val 0 = schr b.val 0 → a.val = b.val) ⟨j, hj⟩ ⟨k, hk⟩ e1 e2
  exact this
theorem kwd_is {tx : Nat → Int} {b e j : Nat} (hj : j < 5) : isW j tx b e = decide (kwd tx b e = 5 + j) := by
  have ex : ∀ k, k < 5 → isW k tx b e = true → kwd tx b e = 5 + k := by
    intro k hk h
    have no : ∀ i, i < 5 → i ≠ k → ¬ isW i tx b e = true := fun i hi q g => q (isW_one hi hk g h)
    unfold kwd
    rcases (show k = 0 ∨ k = 1 ∨ k = 2 ∨ k = 3 ∨ k = 4 by omega) with q | q | q | q | q <;> subst q
    · rw [if_pos h]
    · rw [if_neg (no 0 (by decide) (by decide)), if_pos h]
    · rw [if_neg (no 0 (by decide) (by decide)), if_neg (no 1 (by decide) (by decide)), if_pos h]
    · rw [if_neg (no 0 (by decide) (by decide)), if_neg (no 1 (by decide) (by decide)), if_neg (no 2 (by decide) (by decide)), if_pos h]
    · rw [if_neg (no 0 (by decide) (by decide)), if_neg (no 1 (by decide) (by decide)), if_neg (no 2 (by decide) (by decide)), if_neg (no 3 (by decide) (by decide)), if_pos h]
  cases q : isW j tx b e with
  | true => rw [decide_eq_true (ex j hj q)]
  | false =>
    refine (decide_eq_false (fun z => ?_)).symm
    have oth : ∀ k, k < 5 → isW k tx b e = true → False := fun k hk h => by
      have := ex k hk h
      have e2 : k = j := by omega
      rw [e2, q] at h
      exact Bool.noConfusion h
    have z4 : kwd tx b e = 4 := by
      unfold kwd
      rw [if_neg (oth 0 (by decide)), if_neg (oth 1 (by decide)), if_neg (oth 2 (by decide)), if_neg (oth 3 (by decide)), if_neg (oth 4 (by decide))]
    omega
theorem kwd_ge {tx : Nat → Int} {b e : Nat} : 4 ≤ kwd tx b e := by
  unfold kwd
  repeat' split
  all_goals decide
/-- the end of token t -/
def tkQ (tx : Nat → Int) (n t : Nat) : Nat := if tkP tx n t < n then tkE tx n (tkP tx n t) else tkP tx n t
theorem tkQ_b {tx : Nat → Int} {n t : Nat} : tkP tx n t ≤ tkQ tx n t ∧ tkQ tx n t ≤ n := by
  have h1 := tkP_le (tx := tx) (n := n) t
  unfold tkQ
  by_cases q : tkP tx n t < n
  · rw [if_pos q]; have := tkE_b (tx := tx) q; omega
  · rw [if_neg q]; omega
theorem tkP_Q {tx : Nat → Int} {n t : Nat} : skp blkB tx n (tkQ tx n t) = tkP tx n (t + 1) := by
  rw [tkP_s]
  unfold tkQ
  by_cases q : tkP tx n t < n
  · rw [if_pos q, if_pos q]
  · rw [if_neg q, if_neg q]
    have h1 := tkP_le (tx := tx) (n := n) t
    rw [show tkP tx n t = n by omega, skp_n]
/-- the reference stands at token t -/
def RTk (τ : Sg) (tx : Nat → Int) (n t : Nat) : Prop := TxR τ tx n ∧ τ 66 9 = (tkQ tx n t : Int) ∧ τ 66 10 = (tkP tx n t : Int) ∧ τ 66 11 = rkd (tK tx n t) ∧ (tK tx n t = 2 → τ 66 12 = tV tx n t)
def RFr (τ τ1 : Sg) : Prop := (∀ j, j < 9 ∨ 12 < j → τ1 66 j = τ 66 j) ∧ ∀ b, b ≠ 66 → τ1 b = τ b
theorem rtk_of {τ τ1 : Sg} {tx : Nat → Int} {n t : Nat} (h : TxR τ tx n) (r : RdR τ τ1 tx n (tkP tx n t)) : RTk τ1 tx n t ∧ RFr τ τ1 := by
  obtain ⟨r1, r2, r3, r4, r5, r6⟩ := r
  refine ⟨⟨⟨by rw [r5 8 (by decide)]; exact h.1, fun j hj => by rw [r6 72 (by decide)]; exact h.2 j hj⟩, r1, r2, r3, ?_⟩, r5, r6⟩
  intro hk
  unfold tK at hk
  by_cases q : tkP tx n t < n
  · rw [if_pos q] at hk
    exact r4 q hk
  · rw [if_neg q] at hk
    exact absurd hk (by decide)
theorem reads_0 {d : Nat} (hd : 4 ≤ d) {τ : Sg} {tx : Nat → Int} {n : Nat} (hn : n ≤ 700) (h : TxR τ tx n) (h9 : τ 66 9 = 0) : ∃ τ1, Ct d MX11_reads [rV 20 66] τ (.inl []) τ1 ∧ RTk τ1 tx n 0 ∧ RFr τ τ1 := by
  obtain ⟨τ1, c1, c2⟩ := reads_R (p := 0) hd hn h h9 (Nat.zero_le _)
  exact ⟨τ1, c1, rtk_of h c2⟩
theorem reads_s {d : Nat} (hd : 4 ≤ d) {τ : Sg} {tx : Nat → Int} {n t : Nat} (hn : n ≤ 700) (h : RTk τ tx n t) : ∃ τ1, Ct d MX11_reads [rV 20 66] τ (.inl []) τ1 ∧ RTk τ1 tx n (t + 1) ∧ RFr τ τ1 := by
  obtain ⟨τ1, c1, c2⟩ := reads_R hd hn h.1 h.2.1 (tkQ_b (tx := tx)).2
  rw [tkP_Q] at c2
  exact ⟨τ1, c1, rtk_of h.1 c2⟩
theorem rkd_is {k : Nat} : (rkd k = 2 ↔ k = 2) ∧ (rkd k = 3 ↔ k = 3) ∧ (rkd k = 4 ↔ k = 1) ∧ (rkd k = 0 ↔ k = 0) ∧ (rkd k = 1 ↔ 4 ≤ k) := by
  unfold rkd
  by_cases q0 : k = 0
  · rw [if_pos q0]; omega
  · rw [if_neg q0]
    by_cases q1 : k = 1
    · rw [if_pos q1]; omega
    · rw [if_neg q1]
      by_cases q2 : k = 2
      · rw [if_pos q2]; omega
      · rw [if_neg q2]
        by_cases q3 : k = 3
        · rw [if_pos q3]; omega
        · rw [if_neg q3]; omega
/-- a fault at token t: its kind and its place -/
def stpK (tx : Nat → Int) (n t : Nat) (k : Int) : Int := if tK tx n t = 1 then 1 else k
theorem isNumber_R {d : Nat} (hd : 1 ≤ d) {τ : Sg} {tx : Nat → Int} {n t : Nat} (h : RTk τ tx n t) (h0 : τ 66 13 = 0) : Ct d MX11_isNumber [rV 20 66] τ (.inl [iV (b01 (decide (tK tx n t = 2)))]) τ := by
  refine (eX11_isNumber (d := 0) ?_).mono hd
  intro X Xr Xt hC hr
  refine bX11_isNumber_0 hC ?_
  rw [if_pos h0, h.2.2.2.1]
  by_cases q : tK tx n t = 2
  · rw [if_pos (rkd_is.1.mpr q)]; rw [decide_eq_true q] at hr; exact hr
  · rw [if_neg (fun z => q (rkd_is.1.mp z))]; rw [decide_eq_false q] at hr; exact hr
theorem isNumber_R0 {d : Nat} (hd : 1 ≤ d) {τ : Sg} (h0 : τ 66 13 ≠ 0) : Ct d MX11_isNumber [rV 20 66] τ (.inl [iV 0]) τ := by
  refine (eX11_isNumber (d := 0) ?_).mono hd
  intro X Xr Xt hC hr
  refine bX11_isNumber_0 hC ?_
  rw [if_neg h0]
  exact hr
def blS (τ : Sg) (tx : Nat → Int) (n t : Nat) (k : Int) : Sg := upS (upS τ 66 13 (stpK tx n t k)) 66 14 (tkP tx n t : Int)
theorem blames_R {d : Nat} (hd : 1 ≤ d) {τ : Sg} {tx : Nat → Int} {n t : Nat} {k : Int} (h : RTk τ tx n t) (h0 : τ 66 13 = 0) : Ct d MX11_blames [rV 20 66, iV k] τ (.inl []) (blS τ tx n t k) := by
  refine (eX11_blames (d := 0) ?_).mono hd
  intro X Xr Xt hC hr
  refine bX11_blames_0 hC ?_
  unfold blS stpK at hr
  have b : ∀ v : Int, upS τ 66 13 v 66 10 = (tkP tx n t : Int) := fun v => by rw [ups_ne (by decide)]; exact h.2.2.1
  rw [if_pos h0, h.2.2.2.1, b, b]
  by_cases q : tK tx n t = 1
  · rw [if_pos (rkd_is.2.2.1.mpr q)]; rw [if_pos q] at hr; exact hr
  · rw [if_neg (fun z => q (rkd_is.2.2.1.mp z))]; rw [if_neg q] at hr; exact hr
theorem blames_R0 {d : Nat} (hd : 1 ≤ d) {τ : Sg} {k : Int} (h0 : τ 66 13 ≠ 0) : Ct d MX11_blames [rV 20 66, iV k] τ (.inl []) τ := by
  refine (eX11_blames (d := 0) ?_).mono hd
  intro X Xr Xt hC hr
  refine bX11_blames_0 hC ?_
  rw [if_neg h0]
  exact hr
theorem isW_ref : ∀ tx b e, isW 5 tx b e = isW 0 tx b e ∧ isW 6 tx b e = isW 2 tx b e ∧ isW 7 tx b e = isW 4 tx b e ∧ isW 8 tx b e = isW 1 tx b e ∧ isW 9 tx b e = isW 3 tx b e := fun _ _ _ => ⟨rfl, rfl, rfl, rfl, rfl⟩
/-- is token t the reference's word 1000 + k, the class's kind 5 + j -/
theorem isWordR {d k j : Nat} (hd : 5 ≤ d) (hk : k < 10) (hj : j < 5) {τ : Sg} {tx : Nat → Int} {n t : Nat} (hn : n ≤ 700) (hkj : ∀ b e, isW k tx b e = isW j tx b e) (h : RTk τ tx n t) (h0 : τ 66 13 = 0) : Ct d MX11_isWord [rV 20 66, rV 30 (1000 + k)] τ (.inl [iV (b01 (decide (tK tx n t = 5 + j)))]) τ := by
  have c := isWord_R hd hk hn h.1 h.2.1 h.2.2.1 (tkQ_b (tx := tx)).2 (tkQ_b (tx := tx)).1
  rw [hkj, kwd_is hj, h0, h.2.2.2.1] at c
  have e : (decide ((0 : Int) = 0 ∧ rkd (tK tx n t) = 1) && decide (kwd tx (tkP tx n t) (tkQ tx n t) = 5 + j)) = decide (tK tx n t = 5 + j) := by
    by_cases q : 4 ≤ tK tx n t
    · rw [decide_eq_true ⟨rfl, rkd_is.2.2.2.2.mpr q⟩, Bool.true_and]
      have ek : tK tx n t = kwd tx (tkP tx n t) (tkQ tx n t) := by
        unfold tK at q ⊢
        unfold tkQ
        by_cases z : tkP tx n t < n
        · rw [if_pos z] at q ⊢
          rw [if_pos z]
          unfold tkK at q ⊢
          by_cases l : ltrB (tx (tkP tx n t)) = true
          · rw [if_pos l]
          · exfalso
            rw [if_neg l] at q
            revert q
            repeat' split
            all_goals exact fun q => absurd q (by decide)
        · rw [if_neg z] at q
          exact absurd q (by decide)
      rw [ek]
    · rw [decide_eq_false (fun z => q (rkd_is.2.2.2.2.mp z.2)), Bool.false_and, decide_eq_false (by omega)]
  rw [e] at c
  exact c
theorem isWordR0 {d k : Nat} (hd : 1 ≤ d) {τ : Sg} (h0 : τ 66 13 ≠ 0) : Ct d MX11_isWord [rV 20 66, rV 30 (1000 + k)] τ (.inl [iV 0]) τ := by
  refine (eX11_isWord (d := 0) ?_).mono hd
  intro X Xr Xt hC hr
  refine bX11_isWord_0 hC ?_
  rw [if_neg h0]
  refine bX11_isWord_39 hC ?_
  rw [if_pos rfl]
  exact ⟨Or.inl rfl, hr⟩
/-- the class stands at token t -/
def CTk (σ : Sg) (tx : Nat → Int) (n t : Nat) : Prop := TkC σ tx n ∧ σ 1 4 = (t : Int)
theorem isNext_C {d : Nat} (hd : 2 ≤ d) {σ : Sg} {tx : Nat → Int} {n t : Nat} (k : Int) (h : CTk σ tx n t) : Ct d MX5_isNext [rV 14 1, iV k] σ (.inl [iV (b01 (decide ((tK tx n t : Int) = k)))]) σ := by
  refine (eX5_isNext (d := 1) ?_).mono hd
  intro X Xr Xt hC hr
  refine bX5_isNext_0 hC ?_
  rw [h.2]
  refine ⟨_, kindOf_C (by decide) h.1, ?_⟩
  by_cases q : (tK tx n t : Int) = k
  · rw [if_pos q]; rw [decide_eq_true q] at hr; exact hr
  · rw [if_neg q]; rw [decide_eq_false q] at hr; exact hr
def spS (σ : Sg) (tx : Nat → Int) (n t : Nat) (k : Int) : Sg := upS (upS σ 1 0 (stpK tx n t k)) 1 1 (tkP tx n t : Int)
theorem stop_C {d : Nat} (hd : 2 ≤ d) {σ : Sg} {tx : Nat → Int} {n t : Nat} {k : Int} (h : CTk σ tx n t) : Ct d MX5_stop [rV 14 1, iV k] σ (.inl [iV 0]) (spS σ tx n t k) := by
  refine (eX5_stop (d := 1) ?_).mono hd
  intro X Xr Xt hC hr
  refine bX5_stop_0 hC ?_
  unfold spS stpK at hr
  have b : ∀ v : Int, upS σ 1 0 v 1 4 = (t : Int) := fun v => by rw [ups_ne (by decide)]; exact h.2
  have s : ∀ v : Int, Ct 1 MX7_startOf [rV 16 2, iV (t : Int)] (upS σ 1 0 v) (.inl [iV (tkP tx n t : Int)]) (upS σ 1 0 v) := fun v => startOf_C (by decide) (h.1.fr (fun b h1 h2 => ups_cell (by omega)))
  rw [h.2, b, b]
  refine ⟨_, kindOf_C (by decide) h.1, ?_⟩
  by_cases q : tK tx n t = 1
  · rw [if_pos (by omega)]; rw [if_pos q] at hr; exact ⟨_, s 1, hr⟩
  · rw [if_neg (by omega)]; rw [if_neg q] at hr; exact ⟨_, s k, hr⟩
