/-! the reference reads token after token -/
theorem ups_commk {σ : Sg} {a i j : Nat} {v w : Int} (h : i ≠ j) : upS (upS σ a i v) a j w = upS (upS σ a j w) a i v := by
  funext c k
  unfold upS
  by_cases q : c = a ∧ k = i
  · rw [if_neg (show ¬ (c = a ∧ k = j) by omega), if_pos q, if_pos q]
  · rw [if_neg q, if_neg q]
/-- the reference's name of a kind -/
def rkd (k : Nat) : Int := if k = 0 then 0 else if k = 1 then 4 else if k = 2 then 2 else if k = 3 then 3 else 1
theorem TxR.up {τ : Sg} {tx : Nat → Int} {n a i : Nat} {v : Int} (h : TxR τ tx n) (h6 : a ≠ 72) (h5 : a ≠ 66 ∨ i ≠ 8) : TxR (upS τ a i v) tx n := by
  refine ⟨?_, fun j hj => ?_⟩
  · rw [ups_ne (by omega)]; exact h.1
  · rw [ups_cell (Ne.symm h6)]; exact h.2 j hj
def eofv (tx : Nat → Int) (n p : Nat) : Int := if p < n then tx p else 0
theorem see_R {d : Nat} (hd : 1 ≤ d) {τ : Sg} {tx : Nat → Int} {n p : Nat} (hn : n ≤ 700) (h : TxR τ tx n) : Ct d MX11_see [rV 20 66, iV (p : Int)] τ (.inl [iV (eofv tx n p)]) τ := by
  refine (eX11_see (d := 0) ?_).mono hd
  intro X Xr Xt hC hr
  refine bX11_see_0 hC ?_
  unfold eofv at hr
  rw [h.1]
  by_cases q : p < n
  · rw [if_pos (by omega), Int.toNat_natCast, h.2 p q]
    rw [if_pos q] at hr
    exact ⟨by omega, hr⟩
  · rw [if_neg (by omega)]
    rw [if_neg q] at hr
    exact hr
def RdR (τ τ1 : Sg) (tx : Nat → Int) (n P : Nat) : Prop := τ1 66 9 = ((if P < n then tkE tx n P else P : Nat) : Int) ∧ τ1 66 10 = (P : Int) ∧ τ1 66 11 = rkd (if P < n then tkK tx n P else 0) ∧ (P < n → tkK tx n P = 2 → τ1 66 12 = tkV tx n P) ∧ (∀ j, j < 9 ∨ 12 < j → τ1 66 j = τ 66 j) ∧ ∀ b, b ≠ 66 → τ1 b = τ b
theorem rdR_3 {τ : Sg} {tx : Nat → Int} {n P e : Nat} {k : Int} (he : e = if P < n then tkE tx n P else P) (hk : k = rkd (if P < n then tkK tx n P else 0)) (h2 : P < n → tkK tx n P ≠ 2) : RdR τ (upS (upS (upS τ 66 9 (e : Int)) 66 10 (P : Int)) 66 11 k) tx n P := by
  refine ⟨?_, ?_, ?_, fun h q => absurd q (h2 h), ?_, ?_⟩
  · rw [ups_ne (by decide), ups_ne (by decide), ups_eq, he]
  · rw [ups_ne (by decide), ups_eq]
  · rw [ups_eq, hk]
  · intro j hj
    rw [ups_ne (by omega), ups_ne (by omega), ups_ne (by omega)]
  · intro b hb
    rw [ups_cell hb, ups_cell hb, ups_cell hb]
theorem rdR_4 {τ : Sg} {tx : Nat → Int} {n P e : Nat} {k v : Int} (he : e = if P < n then tkE tx n P else P) (hk : k = rkd (if P < n then tkK tx n P else 0)) (hv : P < n → tkK tx n P = 2 → v = tkV tx n P) : RdR τ (upS (upS (upS (upS τ 66 10 (P : Int)) 66 12 v) 66 9 (e : Int)) 66 11 k) tx n P := by
  refine ⟨?_, ?_, ?_, ?_, ?_, ?_⟩
  · rw [ups_ne (by decide), ups_eq, he]
  · rw [ups_ne (by decide), ups_ne (by decide), ups_ne (by decide), ups_eq]
  · rw [ups_eq, hk]
  · intro h q
    rw [ups_ne (by decide), ups_ne (by decide), ups_eq]
    exact hv h q
  · intro j hj
    rw [ups_ne (by omega), ups_ne (by omega), ups_ne (by omega), ups_ne (by omega)]
  · intro b hb
    rw [ups_cell hb, ups_cell hb, ups_cell hb, ups_cell hb]
theorem rd_word {τ : Sg} {tx : Nat → Int} {n : Nat} (hn : n ≤ 700) (h : TxR τ tx n) {x1 : Int} {X : Nat → List Vv → List Vv → Sg → Prop} {Xr : List Vv → Sg → Prop} {Xt : Nat → Sg → Prop} (hC : Clo (Ct 3) 11 cX11_reads none X Xr Xt) : ∀ r p : Nat, p + r = n → Xr [] (upS (upS τ 66 9 (skp ltrB tx n p : Int)) 66 11 1) → X 94 [rV 20 66, iV x1] [] (upS τ 66 9 (p : Int)) := by
  intro r
  induction r with
  | zero =>
    intro p e hx
    have e : p = n := e
    refine bX11_reads_94 hC ?_
    rw [ups_eq]
    refine ⟨_, see_R (by decide) hn (h.up (by decide) (by decide)), _, isLetter_R (by decide), ?_⟩
    have ev : eofv tx n p = 0 := by unfold eofv; rw [if_neg (by omega)]
    rw [ev, if_pos (by decide)]
    rw [e, skp_n, ← e] at hx
    exact hx
  | succ r ih =>
    intro p e hx
    refine bX11_reads_94 hC ?_
    rw [ups_eq]
    refine ⟨_, see_R (by decide) hn (h.up (by decide) (by decide)), _, isLetter_R (by decide), ?_⟩
    have ev : eofv tx n p = tx p := by unfold eofv; rw [if_pos (by omega)]
    rw [ev]
    cases q : ltrB (tx p) with
    | true =>
      rw [if_neg (by decide), ups_66, w32_s (show p < 2147483647 by omega)]
      refine ih (p + 1) (by omega) ?_
      rw [← skp_st (by omega) q]
      exact hx
    | false =>
      rw [if_pos (by decide)]
      rw [skp_no (by omega) q] at hx
      exact hx
/-- the reference's number: exact by its first three digits -/
theorem rd_num {τ : Sg} {tx : Nat → Int} {n b : Nat} (hn : n ≤ 700) (h : TxR τ tx n) (hb : τ 66 10 = (b : Int)) {x1 : Int} {X : Nat → List Vv → List Vv → Sg → Prop} {Xr : List Vv → Sg → Prop} {Xt : Nat → Sg → Prop} (hC : Clo (Ct 3) 11 cX11_reads none X Xr Xt) (hx : ∀ v : Int, (skp digB tx n b ≤ b + 3 → v = valD tx b (skp digB tx n b - b)) → Xr [] (upS (upS (upS τ 66 12 v) 66 9 (skp digB tx n b : Int)) 66 11 (if b + 3 < skp digB tx n b then 4 else 2))) : ∀ r k : Nat, b + k + r = n → skp digB tx n (b + k) = skp digB tx n b → (∀ j, j < k → digB (tx (b + j)) = true) → ∀ v : Int, 0 ≤ v → v < 1000 → (k ≤ 3 → v = valD tx b k) → X 141 [rV 20 66, iV x1] [] (upS (upS τ 66 12 v) 66 9 ((b + k : Nat) : Int)) := by
  intro r
  have fin : ∀ k : Nat, b + k ≤ n → skp digB tx n b = b + k → ∀ v : Int, (k ≤ 3 → v = valD tx b k) → (if (3 : Int) < w32 (((b + k : Nat) : Int) - (b : Int)) then Xr [] (upS (upS (upS τ 66 12 v) 66 9 ((b + k : Nat) : Int)) 66 11 4) else Xr [] (upS (upS (upS τ 66 12 v) 66 9 ((b + k : Nat) : Int)) 66 11 2)) := by
    intro k hk e v hv
    have hx1 := hx v (fun q => by rw [e, show b + k - b = k by omega]; exact hv (by omega))
    rw [e] at hx1
    rw [show ((b + k : Nat) : Int) - (b : Int) = (k : Int) by omega, w32_n (show k < 2147483648 by omega)]
    by_cases z : 3 < k
    · rw [if_pos (by omega)] at hx1
      rw [if_pos (by omega)]
      exact hx1
    · rw [if_neg (by omega)] at hx1
      rw [if_neg (by omega)]
      exact hx1
  have b10 : ∀ v w : Int, upS (upS τ 66 12 v) 66 9 w 66 10 = (b : Int) := fun v w => by rw [ups_ne (by decide), ups_ne (by decide)]; exact hb
  induction r with
  | zero =>
    intro k e es hdg v v0 v1 hv
    have e : b + k = n := e
    refine bX11_reads_141 hC ?_
    rw [ups_eq, b10]
    refine ⟨_, see_R (by decide) hn ((h.up (by decide) (by decide)).up (by decide) (by decide)), _, isDigit_R (by decide), ?_⟩
    have ev : eofv tx n (b + k) = 0 := by unfold eofv; rw [if_neg (by omega)]
    rw [ev, if_pos (by decide)]
    exact fin k (by omega) (by rw [← es, e, skp_n]) v hv
  | succ r ih =>
    intro k e es hdg v v0 v1 hv
    refine bX11_reads_141 hC ?_
    rw [ups_eq, b10]
    refine ⟨_, see_R (by decide) hn ((h.up (by decide) (by decide)).up (by decide) (by decide)), _, isDigit_R (by decide), ?_⟩
    have ev : eofv tx n (b + k) = tx (b + k) := by unfold eofv; rw [if_pos (by omega)]
    rw [ev]
    cases q : digB (tx (b + k)) with
    | false =>
      rw [if_pos (by decide)]
      exact fin k (by omega) (by rw [← es, skp_no (by omega) q]) v hv
    | true =>
      have qd := of_decide_eq_true q
      have hdg' : ∀ j, j < k + 1 → digB (tx (b + j)) = true := fun j hj => by
        by_cases z : j = k
        · rw [z]; exact q
        · exact hdg j (by omega)
      have a12 : upS (upS τ 66 12 v) 66 9 ((b + k : Nat) : Int) 66 12 = v := by rw [ups_ne (by decide), ups_eq]
      have a72 : upS (upS τ 66 12 v) 66 9 ((b + k : Nat) : Int) 72 (b + k) = tx (b + k) := by rw [ups_cell (by decide), ups_cell (by decide)]; exact h.2 (b + k) (by omega)
      have nx : ∀ v2 : Int, upS (upS (upS (upS τ 66 12 v) 66 9 ((b + k : Nat) : Int)) 66 12 v2) 66 9 (w32 (upS (upS (upS τ 66 12 v) 66 9 ((b + k : Nat) : Int)) 66 12 v2 66 9 + 1)) = upS (upS τ 66 12 v2) 66 9 ((b + (k + 1) : Nat) : Int) := by
        intro v2
        rw [ups_ne (show (66 : Nat) ≠ 66 ∨ 9 ≠ 12 by decide), ups_eq, w32_s (show b + k < 2147483647 by omega), ups_commk (show (9 : Nat) ≠ 12 by decide), ups_66, ups_66]
        rfl
      have es' : skp digB tx n (b + (k + 1)) = skp digB tx n b := by rw [← es, skp_st (by omega) q]; rfl
      rw [if_neg (by decide), nx, nx, a12, Int.toNat_natCast, a72, show ((b + k : Nat) : Int) - (b : Int) = (k : Int) by omega, w32_n (show k < 2147483648 by omega)]
      by_cases z : k < 3
      · rw [if_pos (by omega)]
        have hv' := hv (by omega)
        have b1 := valD_b (tx := tx) (b := b) (k + 1) (by omega) hdg'
        have b2 : (10 : Int) ^ (k + 1) ≤ 1000 := by
          rcases (show k = 0 ∨ k = 1 ∨ k = 2 by omega) with z | z | z <;> subst z <;> decide
        rw [valD_s] at b1
        rw [w32_id (show -2147483648 ≤ 10 * v by omega) (by omega), w32_id (show -2147483648 ≤ 10 * v + tx (b + k) by omega) (by omega), w32_id (show -2147483648 ≤ 10 * v + tx (b + k) - 48 by omega) (by omega)]
        refine ⟨by omega, ih (k + 1) (by omega) es' hdg' _ (by omega) (by omega) (fun _ => ?_)⟩
        rw [valD_s]
        omega
      · rw [if_neg (by omega)]
        exact ih (k + 1) (by omega) es' hdg' v v0 v1 (fun y => absurd y (by omega))
