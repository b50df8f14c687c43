/-! the reference reads token after token -/
theorem ups_commk {σ : Sg} {a i j : Nat} {v w : Int} (h : i ≠ j) : upS (upS σ a i v) a j w = upS (upS σ a j w) a i v := by
  funext c k
  unfold upS
  by_cases q : c = a ∧ k = i
  · rw [if_neg (show ¬ (c = a ∧ k = j) by omega), if_pos q, if_pos q]
  · rw [if_neg q, if_neg q]
/-- the reference's name of a kind -/
def rkd (k : Nat) : Int := if k = 0 then 0 else if k = 1 then 4 else if k = 2 then 2 else if k = 3 then 3 else 1
theorem TxR.up {τ : Sg} {tx : Nat → Int} {n a i : Nat} {v : Int} (h : TxR τ tx n) (h6 : a ≠ 72) (h5 : a ≠ 66 ∨ i ≠ 8) : TxR (upS τ a i v) tx n := by
  refine ⟨?_, fun j hj => ?_⟩
  · rw [ups_ne (by omega)]; exact h.1
  · rw [ups_cell (Ne.symm h6)]; exact h.2 j hj
def eofv (tx : Nat → Int) (n p : Nat) : Int := if p < n then tx p else 0
theorem see_R {d : Nat} (hd : 1 ≤ d) {τ : Sg} {tx : Nat → Int} {n p : Nat} (hn : n ≤ 700) (h : TxR τ tx n) : Ct d MX11_see [rV 20 66, iV (p : Int)] τ (.inl [iV (eofv tx n p)]) τ := by
  refine (eX11_see (d := 0) ?_).mono hd
  intro X Xr Xt hC hr
  refine bX11_see_0 hC ?_
  unfold eofv at hr
  rw [h.1]
  by_cases q : p < n
  · rw [if_pos (by omega), Int.toNat_natCast, h.2 p q]
    rw [if_pos q] at hr
    exact ⟨by omega, hr⟩
  · rw [if_neg (by omega)]
    rw [if_neg q] at hr
    exact hr
def RdR (τ τ1 : Sg) (tx : Nat → Int) (n P : Nat) : Prop := τ1 66 9 = ((if P < n then tkE tx n P else P : Nat) : Int) ∧ τ1 66 10 = (P : Int) ∧ τ1 66 11 = rkd (if P < n then tkK tx n P else 0) ∧ (P < n → tkK tx n P = 2 → τ1 66 12 = tkV tx n P) ∧ (∀ j, j < 9 ∨ 12 < j → τ1 66 j = τ 66 j) ∧ ∀ b, b ≠ 66 → τ1 b = τ b
theorem rdR_3 {τ : Sg} {tx : Nat → Int} {n P e : Nat} {k : Int} (he : e = if P < n then tkE tx n P else P) (hk : k = rkd (if P < n then tkK tx n P else 0)) (h2 : P < n → tkK tx n P ≠ 2) : RdR τ (upS (upS (upS τ 66 9 (e : Int)) 66 10 (P : Int)) 66 11 k) tx n P := by
  refine ⟨?_, ?_, ?_, fun h q => absurd q (h2 h), ?_, ?_⟩
  · rw [ups_ne (by decide), ups_ne (by decide), ups_eq, he]
  · rw [ups_ne (by decide), ups_eq]
  · rw [ups_eq, hk]
  · intro j hj
    rw [ups_ne (by omega), ups_ne (by omega), ups_ne (by omega)]
  · intro b hb
    rw [ups_cell hb, ups_cell hb, ups_cell hb]
theorem rdR_4 {τ : Sg} {tx : Nat → Int} {n P e : Nat} {k v : Int} (he : e = if P < n then tkE tx n P else P) (hk : k = rkd (if P < n then tkK tx n P else 0)) (hv : P < n → tkK tx n P = 2 → v = tkV tx n P) : RdR τ (upS (upS (upS (upS τ 66 10 (P : Int)) 66 12 v) 66 9 (e : Int)) 66 11 k) tx n P := by
  refine ⟨?_, ?_, ?_, ?_, ?_, ?_⟩
  · rw [ups_ne (by decide), ups_eq, he]
  · rw [ups_ne (by decide), ups_ne (by decide), ups_ne (by decide), ups_eq]
  · rw [ups_eq, hk]
  · intro h q
    rw [ups_ne (by decide), ups_ne (by decide), ups_eq]
    exact hv h q
  · intro j hj
    rw [ups_ne (by omega), ups_ne (by omega), ups_ne (by omega), ups_ne (by omega)]
  · intro b hb
    rw [ups_cell hb, ups_cell hb, ups_cell hb, ups_cell hb]
theorem rd_word {τ : Sg} {tx : Nat → Int} {n : Nat} (hn : n ≤ 700) (h : TxR τ tx n) {x1 : Int} {X : Nat → List Vv → List Vv → Sg → Prop} {Xr : List Vv → Sg → Prop} {Xt : Nat → Sg → Prop} (hC : Clo (Ct 3) 11 cX11_reads none X Xr Xt) : ∀ r p : Nat, p + r = n → Xr [] (upS (upS τ 66 9 (skp ltrB tx n p : Int)) 66 11 1) → X 94 [rV 20 66, iV x1] [] (upS τ 66 9 (p : Int)) := by
  intro r
  induction r with
  | zero =>
    intro p e hx
    have e : p = n := e
    refine bX11_reads_94 hC ?_
    rw [ups_eq]
    refine ⟨_, see_R (by decide) hn (h.up (by decide) (by decide)), _, isLetter_R (by decide), ?_⟩
    have ev : eofv tx n p = 0 := by unfold eofv; rw [if_neg (by omega)]
    rw [ev, if_pos (by decide)]
    rw [e, skp_n, ← e] at hx
    exact hx
  | succ r ih =>
    intro p e hx
    refine bX11_reads_94 hC ?_
    rw [ups_eq]
    refine ⟨_, see_R (by decide) hn (h.up (by decide) (by decide)), _, isLetter_R (by decide), ?_⟩
    have ev : eofv tx n p = tx p := by unfold eofv; rw [if_pos (by omega)]
    rw [ev]
    cases q : ltrB (tx p) with
    | true =>
      rw [if_neg (by decide), ups_66, w32_s (show p < 2147483647 by omega)]
      refine ih (p + 1) (by omega) ?_
      rw [← skp_st (by omega) q]
      exact hx
    | false =>
      rw [if_pos (by decide)]
      rw [skp_no (by omega) q] at hx
      exact hx
/-- the reference's number: exact by its first three digits -/
theorem rd_num {τ : Sg} {tx : Nat → Int} {n b : Nat} (hn : n ≤ 700) (h : TxR τ tx n) (hb : τ 66 10 = (b : Int)) {x1 : Int} {X : Nat → List Vv → List Vv → Sg → Prop} {Xr : List Vv → Sg → Prop} {Xt : Nat → Sg → Prop} (hC : Clo (Ct 3) 11 cX11_reads none X Xr Xt) (hx : Xr [] (upS (upS (upS τ 66 12 (valD tx b (min 3 (skp digB tx n b - b)))) 66 9 (skp digB tx n b : Int)) 66 11 (if b + 3 < skp digB tx n b then 4 else 2))) : ∀ r k : Nat, b + k + r = n → skp digB tx n (b + k) = skp digB tx n b → (∀ j, j < k → digB (tx (b + j)) = true) → ∀ v : Int, 0 ≤ v → v < 1000 → v = valD tx b (min 3 k) → X 141 [rV 20 66, iV x1] [] (upS (upS τ 66 12 v) 66 9 ((b + k : Nat) : Int)) := by
  intro r
  have fin : ∀ k : Nat, b + k ≤ n → skp digB tx n b = b + k → ∀ v : Int, v = valD tx b (min 3 k) → (if (3 : Int) < w32 (((b + k : Nat) : Int) - (b : Int)) then Xr [] (upS (upS (upS τ 66 12 v) 66 9 ((b + k : Nat) : Int)) 66 11 4) else Xr [] (upS (upS (upS τ 66 12 v) 66 9 ((b + k : Nat) : Int)) 66 11 2)) := by
    intro k hk e v hv
    have hx1 := hx
    rw [e, show b + k - b = k by omega, ← hv] at hx1
    rw [show ((b + k : Nat) : Int) - (b : Int) = (k : Int) by omega, w32_n (show k < 2147483648 by omega)]
    by_cases z : 3 < k
    · rw [if_pos (by omega)] at hx1
      rw [if_pos (by omega)]
      exact hx1
    · rw [if_neg (by omega)] at hx1
      rw [if_neg (by omega)]
      exact hx1
  have b10 : ∀ v w : Int, upS (upS τ 66 12 v) 66 9 w 66 10 = (b : Int) := fun v w => by rw [ups_ne (by decide), ups_ne (by decide)]; exact hb
  induction r with
  | zero =>
    intro k e es hdg v v0 v1 hv
    have e : b + k = n := e
    refine bX11_reads_141 hC ?_
    rw [ups_eq, b10]
    refine ⟨_, see_R (by decide) hn ((h.up (by decide) (by decide)).up (by decide) (by decide)), _, isDigit_R (by decide), ?_⟩
    have ev : eofv tx n (b + k) = 0 := by unfold eofv; rw [if_neg (by omega)]
    rw [ev, if_pos (by decide)]
    exact fin k (by omega) (by rw [← es, e, skp_n]) v hv
  | succ r ih =>
    intro k e es hdg v v0 v1 hv
    refine bX11_reads_141 hC ?_
    rw [ups_eq, b10]
    refine ⟨_, see_R (by decide) hn ((h.up (by decide) (by decide)).up (by decide) (by decide)), _, isDigit_R (by decide), ?_⟩
    have ev : eofv tx n (b + k) = tx (b + k) := by unfold eofv; rw [if_pos (by omega)]
    rw [ev]
    cases q : digB (tx (b + k)) with
    | false =>
      rw [if_pos (by decide)]
      exact fin k (by omega) (by rw [← es, skp_no (by omega) q]) v hv
    | true =>
      have qd := of_decide_eq_true q
      have hdg' : ∀ j, j < k + 1 → digB (tx (b + j)) = true := fun j hj => by
        by_cases z : j = k
        · rw [z]; exact q
        · exact hdg j (by omega)
      have a12 : upS (upS τ 66 12 v) 66 9 ((b + k : Nat) : Int) 66 12 = v := by rw [ups_ne (by decide), ups_eq]
      have a72 : upS (upS τ 66 12 v) 66 9 ((b + k : Nat) : Int) 72 (b + k) = tx (b + k) := by rw [ups_cell (by decide), ups_cell (by decide)]; exact h.2 (b + k) (by omega)
      have nx : ∀ v2 : Int, upS (upS (upS (upS τ 66 12 v) 66 9 ((b + k : Nat) : Int)) 66 12 v2) 66 9 (w32 (upS (upS (upS τ 66 12 v) 66 9 ((b + k : Nat) : Int)) 66 12 v2 66 9 + 1)) = upS (upS τ 66 12 v2) 66 9 ((b + (k + 1) : Nat) : Int) := by
        intro v2
        rw [ups_ne (show (66 : Nat) ≠ 66 ∨ 9 ≠ 12 by decide), ups_eq, w32_s (show b + k < 2147483647 by omega), ups_commk (show (9 : Nat) ≠ 12 by decide), ups_66, ups_66]
        rfl
      have es' : skp digB tx n (b + (k + 1)) = skp digB tx n b := by rw [← es, skp_st (by omega) q]; rfl
      rw [if_neg (by decide), nx, nx, a12, Int.toNat_natCast, a72, show ((b + k : Nat) : Int) - (b : Int) = (k : Int) by omega, w32_n (show k < 2147483648 by omega)]
      by_cases z : k < 3
      · rw [if_pos (by omega)]
        have hv' := hv
        rw [show min 3 k = k by omega] at hv'
        have b1 := valD_b (tx := tx) (b := b) (k + 1) (by omega) hdg'
        have b2 : (10 : Int) ^ (k + 1) ≤ 1000 := by
          rcases (show k = 0 ∨ k = 1 ∨ k = 2 by omega) with z | z | z <;> subst z <;> decide
        rw [valD_s] at b1
        rw [w32_id (show -2147483648 ≤ 10 * v by omega) (by omega), w32_id (show -2147483648 ≤ 10 * v + tx (b + k) by omega) (by omega), w32_id (show -2147483648 ≤ 10 * v + tx (b + k) - 48 by omega) (by omega)]
        refine ⟨by omega, ih (k + 1) (by omega) es' hdg' _ (by omega) (by omega) ?_⟩
        rw [show min 3 (k + 1) = k + 1 by omega, valD_s]
        omega
      · rw [if_neg (by omega)]
        exact ih (k + 1) (by omega) es' hdg' v v0 v1 (by rw [hv, show min 3 (k + 1) = min 3 k by omega])
theorem reads_R {d : Nat} (hd : 4 ≤ d) {τ : Sg} {tx : Nat → Int} {n p : Nat} (hn : n ≤ 700) (h : TxR τ tx n) (h9 : τ 66 9 = (p : Int)) (hp : p ≤ n) : ∃ τ1, Ct d MX11_reads [rV 20 66] τ (.inl []) τ1 ∧ RdR τ τ1 tx n (skp blkB tx n p) := by
  obtain ⟨P, hP⟩ : ∃ P, P = skp blkB tx n p := ⟨_, rfl⟩
  have hPn : P ≤ n := by rw [hP]; exact (skp_ge hp).2
  -- the blanks
  have skip : ∀ (X : Nat → List Vv → List Vv → Sg → Prop) (Xr : List Vv → Sg → Prop) (Xt : Nat → Sg → Prop), Clo (Ct 3) 11 cX11_reads none X Xr Xt → X 0 [rV 20 66, uV] [] (upS τ 66 9 (P : Int)) → X 0 [rV 20 66, uV] [] τ := by
    intro X Xr Xt hC hx
    have key : ∀ r p : Nat, p + r = n → skp blkB tx n p = P → X 0 [rV 20 66, uV] [] (upS τ 66 9 (p : Int)) := by
      intro r
      induction r with
      | zero =>
        intro p e ep
        have e : p = n := e
        rw [← ep, e, skp_n, ← e] at hx
        rw [e, ← e]
        exact hx
      | succ r ih =>
        intro p e ep
        cases q : blkB (tx p) with
        | false =>
          rw [skp_no (by omega) q] at ep
          rw [ep]
          exact hx
        | true =>
          have ih' := ih (p + 1) (by omega) (by rw [← skp_st (by omega) q]; exact ep)
          have qd := of_decide_eq_true q
          have a8 : upS τ 66 9 (p : Int) 66 8 = (n : Int) := by rw [ups_ne (by decide)]; exact h.1
          have a72 : upS τ 66 9 (p : Int) 72 p = tx p := by rw [ups_cell (by decide)]; exact h.2 p (by omega)
          refine bX11_reads_0 hC ?_
          rw [ups_eq, a8, Int.toNat_natCast, a72, if_pos (by omega), w32_s (show p < 2147483647 by omega), ups_66]
          refine ⟨by omega, ?_⟩
          by_cases z : tx p = 32
          · rw [if_pos z]; exact ih'
          · rw [if_neg z, if_pos (by omega)]; exact ⟨by omega, ih'⟩
    have := key (n - p) p (by omega) hP.symm
    rw [ups_self h9] at this
    exact this
  have hnb : P < n → blkB (tx P) = false := by rw [hP]; exact skp_out hp
  rw [← hP]
  clear hP
  obtain ⟨S, hS⟩ : ∃ S, S = upS (upS τ 66 9 (P : Int)) 66 10 (P : Int) := ⟨_, rfl⟩
  have s8 : S 66 8 = (n : Int) := by rw [hS, ups_ne (by decide), ups_ne (by decide)]; exact h.1
  have s9 : S 66 9 = (P : Int) := by rw [hS, ups_ne (by decide), ups_eq]
  have a8 : upS τ 66 9 (P : Int) 66 8 = (n : Int) := by rw [ups_ne (by decide)]; exact h.1
  by_cases q : P < n
  · have s72 : S 72 P = tx P := by rw [hS, ups_cell (by decide), ups_cell (by decide)]; exact h.2 P q
    have a72 : upS τ 66 9 (P : Int) 72 P = tx P := by rw [ups_cell (by decide)]; exact h.2 P q
    have hb := of_decide_eq_false (hnb q)
    have body : ∀ (X : Nat → List Vv → List Vv → Sg → Prop) (Xr : List Vv → Sg → Prop) (Xt : Nat → Sg → Prop), Clo (Ct 3) 11 cX11_reads none X Xr Xt → (if ltrB (tx P) = true then X 94 [rV 20 66, iV (tx P)] [] S else if digB (tx P) = true then X 141 [rV 20 66, iV (tx P)] [] (upS S 66 12 0) else if tx P = 59 then Xr [] (upS (upS S 66 11 3) 66 9 ((P + 1 : Nat) : Int)) else Xr [] (upS (upS S 66 11 4) 66 9 ((P + 1 : Nat) : Int))) → X 0 [rV 20 66, uV] [] (upS τ 66 9 (P : Int)) := by
      intro X Xr Xt hC hx
      have b9 : ∀ v : Int, upS S 66 11 v 66 9 = (P : Int) := fun v => by rw [ups_ne (by decide)]; exact s9
      refine bX11_reads_0 hC ?_
      rw [ups_eq, a8, Int.toNat_natCast, a72, if_pos (by omega), ← hS, s9, s8, Int.toNat_natCast, s72]
      refine ⟨by omega, ?_⟩
      rw [if_neg (fun z => hb (Or.inr z))]
      refine ⟨by omega, ?_⟩
      rw [if_neg (fun z => hb (Or.inl z)), if_pos (by omega)]
      refine ⟨by omega, _, isLetter_R (by decide), ?_⟩
      cases l : ltrB (tx P) with
      | true => rw [l, if_pos rfl] at hx; rw [if_neg (by decide)]; exact hx
      | false =>
        rw [l, if_neg (by decide)] at hx
        rw [if_pos (by decide)]
        refine ⟨_, isDigit_R (by decide), ?_⟩
        cases g : digB (tx P) with
        | true => rw [g, if_pos rfl] at hx; rw [if_neg (by decide)]; exact hx
        | false =>
          rw [g, if_neg (by decide)] at hx
          rw [if_pos (by decide), b9, b9, w32_s (show P < 2147483647 by omega)]
          exact hx
    cases l : ltrB (tx P) with
    | true =>
      have eE : tkE tx n P = skp ltrB tx n P := by unfold tkE; rw [if_pos l]
      have eK : tkK tx n P = kwd tx P (tkE tx n P) := by unfold tkK; rw [if_pos l]
      have e4 : 4 ≤ tkK tx n P := by
        rw [eK]
        unfold kwd
        repeat' split
        all_goals decide
      refine ⟨_, (eX11_reads (d := 3) ?_).mono hd, rdR_3 (e := tkE tx n P) (k := 1) (by rw [if_pos q]) ?_ (fun _ => by omega)⟩
      · intro X Xr Xt hC hr
        refine skip X Xr Xt hC (body X Xr Xt hC ?_)
        rw [l, if_pos rfl, hS, ups_commk (show 9 ≠ 10 by decide)]
        refine rd_word hn (h.up (by decide) (by decide)) hC (n - P) P (by omega) ?_
        rw [← eE, ups_commk (show 10 ≠ 9 by decide)]
        exact hr
      · rw [if_pos q]
        unfold rkd
        rw [if_neg (by omega), if_neg (by omega), if_neg (by omega), if_neg (by omega)]
    | false =>
      cases g : digB (tx P) with
      | true =>
        have eE : tkE tx n P = skp digB tx n P := by unfold tkE; rw [if_neg (by rw [l]; decide), if_pos g]
        have eK : tkK tx n P = if P + 3 < tkE tx n P then 1 else 2 := by unfold tkK; rw [if_neg (by rw [l]; decide), if_pos g]
        refine ⟨_, (eX11_reads (d := 3) ?_).mono hd, rdR_4 (e := tkE tx n P) (k := if P + 3 < tkE tx n P then 4 else 2) (v := valD tx P (min 3 (tkE tx n P - P))) (by rw [if_pos q]) ?_ ?_⟩
        · intro X Xr Xt hC hr
          refine skip X Xr Xt hC (body X Xr Xt hC ?_)
          rw [l, if_neg (by decide), g, if_pos rfl, hS, ups_commk (show 9 ≠ 10 by decide), ups_commk (show 9 ≠ 12 by decide)]
          have := rd_num (τ := upS τ 66 10 (P : Int)) (x1 := tx P) hn (h.up (by decide) (by decide)) ups_eq hC (by rw [← eE]; exact hr) (n - P) 0 (by omega) rfl (fun j hj => absurd hj (Nat.not_lt_zero j)) 0 (by decide) (by decide) rfl
          exact this
        · rw [if_pos q, eK]
          by_cases z : P + 3 < tkE tx n P
          · rw [if_pos z, if_pos z]; rfl
          · rw [if_neg z, if_neg z]; rfl
        · intro _ z
          rw [eK] at z
          unfold tkV
          by_cases y : P + 3 < tkE tx n P
          · rw [if_pos y] at z; exact absurd z (by decide)
          · rw [show min 3 (tkE tx n P - P) = tkE tx n P - P by omega]
      | false =>
        have eE : tkE tx n P = P + 1 := by unfold tkE; rw [if_neg (by rw [l]; decide), if_neg (by rw [g]; decide)]
        have eK : tkK tx n P = if tx P = 59 then 3 else 1 := by unfold tkK; rw [if_neg (by rw [l]; decide), if_neg (by rw [g]; decide)]
        refine ⟨_, (eX11_reads (d := 3) ?_).mono hd, rdR_3 (e := P + 1) (k := if tx P = 59 then 3 else 4) (by rw [if_pos q, eE]) ?_ ?_⟩
        · intro X Xr Xt hC hr
          refine skip X Xr Xt hC (body X Xr Xt hC ?_)
          rw [l, if_neg (by decide), g, if_neg (by decide)]
          have fin : ∀ k : Int, upS (upS S 66 11 k) 66 9 ((P + 1 : Nat) : Int) = upS (upS (upS τ 66 9 ((P + 1 : Nat) : Int)) 66 10 (P : Int)) 66 11 k := by
            intro k
            rw [hS, ups_commk (show 11 ≠ 9 by decide), ups_commk (show 10 ≠ 9 by decide), ups_66]
          rw [fin, fin]
          by_cases z : tx P = 59
          · rw [if_pos z] at hr ⊢; exact hr
          · rw [if_neg z] at hr ⊢; exact hr
        · rw [if_pos q, eK]
          by_cases z : tx P = 59
          · rw [if_pos z, if_pos z]; rfl
          · rw [if_neg z, if_neg z]; rfl
        · intro _
          rw [eK]
          by_cases z : tx P = 59
          · rw [if_pos z]; decide
          · rw [if_neg z]; decide
  · refine ⟨_, (eX11_reads (d := 3) ?_).mono hd, rdR_3 (e := P) (k := 0) (by rw [if_neg q]) (by rw [if_neg q]; rfl) (fun z => absurd z q)⟩
    intro X Xr Xt hC hr
    refine skip X Xr Xt hC ?_
    refine bX11_reads_0 hC ?_
    rw [ups_eq, a8, if_neg (by omega), ← hS, s9, s8, if_neg (by omega), hS]
    exact hr
