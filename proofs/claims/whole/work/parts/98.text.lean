/-! the text and its tokens, pure; the class's small readers of it -/
def ltrB (c : Int) : Bool := decide (97 ≤ c ∧ c ≤ 122)
def digB (c : Int) : Bool := decide (48 ≤ c ∧ c ≤ 57)
def blkB (c : Int) : Bool := decide (c = 10 ∨ c = 32)
/-- the first place from p on, r long, where f fails -/
def scn (f : Int → Bool) (tx : Nat → Int) : Nat → Nat → Nat
  | 0, p => p
  | r + 1, p => if f (tx p) = true then scn f tx r (p + 1) else p
def skp (f : Int → Bool) (tx : Nat → Int) (n p : Nat) : Nat := scn f tx (n - p) p
theorem scn_s (f : Int → Bool) (tx : Nat → Int) (r p : Nat) : scn f tx (r + 1) p = if f (tx p) = true then scn f tx r (p + 1) else p := rfl
theorem scn_ge {f : Int → Bool} {tx : Nat → Int} : ∀ r p, p ≤ scn f tx r p ∧ scn f tx r p ≤ p + r := by
  intro r
  induction r with
  | zero => intro p; exact ⟨Nat.le_refl _, Nat.le_refl _⟩
  | succ r ih =>
    intro p
    rw [scn_s]
    by_cases q : f (tx p) = true
    · rw [if_pos q]; have := ih (p + 1); omega
    · rw [if_neg q]; omega
theorem scn_in {f : Int → Bool} {tx : Nat → Int} : ∀ r p j, p ≤ j → j < scn f tx r p → f (tx j) = true := by
  intro r
  induction r with
  | zero => intro p j h1 h2; exact absurd h2 (Nat.not_lt.mpr h1)
  | succ r ih =>
    intro p j h1 h2
    rw [scn_s] at h2
    by_cases q : f (tx p) = true
    · rw [if_pos q] at h2
      by_cases e : j = p
      · rw [e]; exact q
      · exact ih (p + 1) j (by omega) h2
    · rw [if_neg q] at h2
      omega
theorem scn_out {f : Int → Bool} {tx : Nat → Int} : ∀ r p, scn f tx r p < p + r → f (tx (scn f tx r p)) = false := by
  intro r
  induction r with
  | zero => intro p h; exact absurd h (Nat.lt_irrefl _)
  | succ r ih =>
    intro p h
    rw [scn_s] at h ⊢
    by_cases q : f (tx p) = true
    · rw [if_pos q] at h ⊢; exact ih (p + 1) (by omega)
    · rw [if_neg q]; exact Bool.eq_false_iff.mpr q
theorem skp_ge {f : Int → Bool} {tx : Nat → Int} {n p : Nat} (h : p ≤ n) : p ≤ skp f tx n p ∧ skp f tx n p ≤ n := by
  have := scn_ge (f := f) (tx := tx) (n - p) p
  unfold skp
  omega
theorem skp_out {f : Int → Bool} {tx : Nat → Int} {n p : Nat} (h : p ≤ n) (g : skp f tx n p < n) : f (tx (skp f tx n p)) = false := scn_out (n - p) p (by unfold skp at g; omega)
theorem skp_st {f : Int → Bool} {tx : Nat → Int} {n p : Nat} (h : p < n) (g : f (tx p) = true) : skp f tx n p = skp f tx n (p + 1) := by
  unfold skp
  rw [show n - p = (n - (p + 1)) + 1 by omega, scn_s, if_pos g]
theorem skp_no {f : Int → Bool} {tx : Nat → Int} {n p : Nat} (h : p < n) (g : f (tx p) = false) : skp f tx n p = p := by
  unfold skp
  rw [show n - p = (n - (p + 1)) + 1 by omega, scn_s, if_neg (by rw [g]; decide)]
theorem skp_n {f : Int → Bool} {tx : Nat → Int} {n : Nat} : skp f tx n n = n := by
  unfold skp
  rw [Nat.sub_self]
  rfl
/-- a number's value by its first k digits -/
def valD (tx : Nat → Int) (b : Nat) : Nat → Int
  | 0 => 0
  | k + 1 => 10 * valD tx b k + (tx (b + k) - 48)
theorem valD_s (tx : Nat → Int) (b k : Nat) : valD tx b (k + 1) = 10 * valD tx b k + (tx (b + k) - 48) := rfl
theorem valD_b {tx : Nat → Int} {b : Nat} : ∀ k, k ≤ 3 → (∀ j, j < k → digB (tx (b + j)) = true) → 0 ≤ valD tx b k ∧ valD tx b k < 10 ^ k := by
  intro k
  induction k with
  | zero => intro _ _; exact ⟨Int.le_refl _, (by decide : (0 : Int) < 10 ^ 0)⟩
  | succ k ih =>
    intro hk h
    have i1 := ih (by omega) (fun j hj => h j (by omega))
    have i2 := of_decide_eq_true (h k (by omega))
    rw [valD_s]
    rcases (show k = 0 ∨ k = 1 ∨ k = 2 by omega) with q | q | q <;> subst q <;> simp only [Nat.reduceAdd, Int.reducePow] at i1 ⊢ <;> omega
/-- the word k of the two programs stands from b to e -/
def eqF (k : Nat) (tx : Nat → Int) (b : Nat) : Nat → Nat → Bool
  | 0, _ => true
  | r + 1, i => decide (tx (b + i) = schr k i) && eqF k tx b r (i + 1)
theorem eqF_s (k : Nat) (tx : Nat → Int) (b r i : Nat) : eqF k tx b (r + 1) i = (decide (tx (b + i) = schr k i) && eqF k tx b r (i + 1)) := rfl
def isW (k : Nat) (tx : Nat → Int) (b e : Nat) : Bool := decide (e = b + SLen.getD k 0) && eqF k tx b (SLen.getD k 0) 0
def kwd (tx : Nat → Int) (b e : Nat) : Nat := if isW 0 tx b e = true then 5 else if isW 1 tx b e = true then 6 else if isW 2 tx b e = true then 7 else if isW 3 tx b e = true then 8 else if isW 4 tx b e = true then 9 else 4
/-- the end and the kind of the token that begins at p -/
def tkE (tx : Nat → Int) (n p : Nat) : Nat := if ltrB (tx p) = true then skp ltrB tx n p else if digB (tx p) = true then skp digB tx n p else p + 1
def tkK (tx : Nat → Int) (n p : Nat) : Nat := if ltrB (tx p) = true then kwd tx p (tkE tx n p) else if digB (tx p) = true then (if p + 3 < tkE tx n p then 1 else 2) else if tx p = 59 then 3 else 1
def tkV (tx : Nat → Int) (n p : Nat) : Int := valD tx p (tkE tx n p - p)
/-- the start of token t; n where there is none -/
def tkP (tx : Nat → Int) (n : Nat) : Nat → Nat
  | 0 => skp blkB tx n 0
  | t + 1 => if tkP tx n t < n then skp blkB tx n (tkE tx n (tkP tx n t)) else tkP tx n t
theorem tkP_s (tx : Nat → Int) (n t : Nat) : tkP tx n (t + 1) = if tkP tx n t < n then skp blkB tx n (tkE tx n (tkP tx n t)) else tkP tx n t := rfl
theorem tkE_b {tx : Nat → Int} {n p : Nat} (h : p < n) : p < tkE tx n p ∧ tkE tx n p ≤ n := by
  unfold tkE
  by_cases q : ltrB (tx p) = true
  · rw [if_pos q, skp_st h q]
    have := skp_ge (f := ltrB) (tx := tx) (show p + 1 ≤ n from h)
    omega
  · rw [if_neg q]
    by_cases r : digB (tx p) = true
    · rw [if_pos r, skp_st h r]
      have := skp_ge (f := digB) (tx := tx) (show p + 1 ≤ n from h)
      omega
    · rw [if_neg r]; omega
theorem tkP_le {tx : Nat → Int} {n : Nat} : ∀ t, tkP tx n t ≤ n := by
  intro t
  induction t with
  | zero => exact (skp_ge (Nat.zero_le _)).2
  | succ t ih =>
    rw [tkP_s]
    by_cases q : tkP tx n t < n
    · rw [if_pos q]; exact (skp_ge (tkE_b q).2).2
    · rw [if_neg q]; exact ih
theorem tkP_lt {tx : Nat → Int} {n t : Nat} (h : tkP tx n t < n) : tkP tx n t < tkP tx n (t + 1) := by
  rw [tkP_s, if_pos h]
  have h1 := tkE_b (tx := tx) h
  have h2 := skp_ge (f := blkB) (tx := tx) h1.2
  omega
theorem tkP_t {tx : Nat → Int} {n : Nat} : ∀ t, tkP tx n t < n → t ≤ tkP tx n t := by
  intro t
  induction t with
  | zero => intro _; exact Nat.zero_le _
  | succ t ih =>
    intro h
    have q : tkP tx n t < n := by
      by_cases q : tkP tx n t < n
      · exact q
      · rw [tkP_s, if_neg q] at h; exact h
    have h1 := ih q
    have h2 := tkP_lt q
    omega
theorem tkP_end {tx : Nat → Int} {n t : Nat} (h : tkP tx n t = n) : ∀ r, tkP tx n (t + r) = n := by
  intro r
  induction r with
  | zero => exact h
  | succ r ih => rw [← Nat.add_assoc, tkP_s, ih, if_neg (Nat.lt_irrefl _)]
/-- kind, start and value of token t -/
def tK (tx : Nat → Int) (n t : Nat) : Nat := if tkP tx n t < n then tkK tx n (tkP tx n t) else 0
def tV (tx : Nat → Int) (n t : Nat) : Int := tkV tx n (tkP tx n t)
theorem isLetter_C {d : Nat} (hd : 1 ≤ d) {c : Int} {σ : Sg} : Ct d MX7_isLetter [iV c] σ (.inl [iV (b01 (ltrB c))]) σ := by
  refine (eX7_isLetter (d := 0) ?_).mono hd
  intro X Xr Xt hC hr
  refine bX7_isLetter_0 hC ?_
  unfold ltrB at hr
  by_cases q : c < 97
  · rw [if_pos q]; rw [decide_eq_false (by omega)] at hr; exact hr
  · rw [if_neg q]
    by_cases r : 122 < c
    · rw [if_pos r]; rw [decide_eq_false (by omega)] at hr; exact hr
    · rw [if_neg r]; rw [decide_eq_true (by omega)] at hr; exact hr
theorem isDigit_C {d : Nat} (hd : 1 ≤ d) {c : Int} {σ : Sg} : Ct d MX7_isDigit [iV c] σ (.inl [iV (b01 (digB c))]) σ := by
  refine (eX7_isDigit (d := 0) ?_).mono hd
  intro X Xr Xt hC hr
  refine bX7_isDigit_0 hC ?_
  unfold digB at hr
  by_cases q : c < 48
  · rw [if_pos q]; rw [decide_eq_false (by omega)] at hr; exact hr
  · rw [if_neg q]
    by_cases r : 57 < c
    · rw [if_pos r]; rw [decide_eq_false (by omega)] at hr; exact hr
    · rw [if_neg r]; rw [decide_eq_true (by omega)] at hr; exact hr
theorem isLetter_R {d : Nat} (hd : 1 ≤ d) {c : Int} {σ : Sg} : Ct d MX11_isLetter [iV c] σ (.inl [iV (b01 (ltrB c))]) σ := by
  refine (eX11_isLetter (d := 0) ?_).mono hd
  intro X Xr Xt hC hr
  refine bX11_isLetter_0 hC ?_
  unfold ltrB at hr
  by_cases q : c < 97
  · rw [if_pos q]; rw [decide_eq_false (by omega)] at hr; exact hr
  · rw [if_neg q]
    by_cases r : 122 < c
    · rw [if_pos r]; rw [decide_eq_false (by omega)] at hr; exact hr
    · rw [if_neg r]; rw [decide_eq_true (by omega)] at hr; exact hr
theorem isDigit_R {d : Nat} (hd : 1 ≤ d) {c : Int} {σ : Sg} : Ct d MX11_isDigit [iV c] σ (.inl [iV (b01 (digB c))]) σ := by
  refine (eX11_isDigit (d := 0) ?_).mono hd
  intro X Xr Xt hC hr
  refine bX11_isDigit_0 hC ?_
  unfold digB at hr
  by_cases q : c < 48
  · rw [if_pos q]; rw [decide_eq_false (by omega)] at hr; exact hr
  · rw [if_neg q]
    by_cases r : 57 < c
    · rw [if_pos r]; rw [decide_eq_false (by omega)] at hr; exact hr
    · rw [if_neg r]; rw [decide_eq_true (by omega)] at hr; exact hr
/-- the class's text: its length and its signs -/
def TxC (σ : Sg) (tx : Nat → Int) (n : Nat) : Prop := σ 2 5 = (n : Int) ∧ ∀ j, j < n → σ 87 j = tx j
theorem TxC.up {σ : Sg} {tx : Nat → Int} {n a i : Nat} {v : Int} (h : TxC σ tx n) (h6 : a ≠ 87) (h5 : a ≠ 2 ∨ i ≠ 5) : TxC (upS σ a i v) tx n := by
  refine ⟨?_, fun j hj => ?_⟩
  · rw [ups_ne (by omega)]; exact h.1
  · rw [ups_cell (Ne.symm h6)]; exact h.2 j hj
theorem signAt_C {d : Nat} (hd : 1 ≤ d) {σ : Sg} {tx : Nat → Int} {n p : Nat} (hn : n ≤ 700) (h : TxC σ tx n) (hp : p < n) : Ct d MX7_signAt [rV 16 2, iV (p : Int)] σ (.inl [iV (tx p)]) σ := by
  refine (eX7_signAt (d := 0) ?_).mono hd
  intro X Xr Xt hC hr
  refine bX7_signAt_0 hC ?_
  rw [if_neg (by omega), h.1, if_pos (by omega), Int.toNat_natCast, h.2 p hp]
  exact ⟨by omega, hr⟩
theorem ups_66 {σ : Sg} {a i : Nat} {v w : Int} : upS (upS σ a i v) a i w = upS σ a i w := ups_ups _ _ _ _ _
theorem skipBlanks_C {d : Nat} (hd : 2 ≤ d) {σ : Sg} {tx : Nat → Int} {n p : Nat} (hn : n ≤ 700) (h : TxC σ tx n) (hp : p ≤ n) : Ct d MX7_skipBlanks [rV 16 2] (upS σ 2 6 (p : Int)) (.inl []) (upS σ 2 6 (skp blkB tx n p : Int)) := by
  refine (eX7_skipBlanks (d := 1) ?_).mono hd
  intro X Xr Xt hC hr
  have key : ∀ r p : Nat, p + r = n → Xr [] (upS σ 2 6 (skp blkB tx n p : Int)) → X 0 [rV 16 2] [] (upS σ 2 6 (p : Int)) := by
    intro r
    induction r with
    | zero =>
      intro p e hx
      have e : p = n := e
      refine bX7_skipBlanks_0 hC ?_
      rw [ups_eq, ups_ne (Or.inr (by decide)), h.1, if_neg (by omega)]
      rw [e, skp_n, ← e] at hx
      exact hx
    | succ r ih =>
      intro p e hx
      have hs : Ct 1 MX7_signAt [rV 16 2, iV (p : Int)] (upS σ 2 6 (p : Int)) (.inl [iV (tx p)]) (upS σ 2 6 (p : Int)) := signAt_C (by decide) hn (h.up (by decide) (by decide)) (by omega)
      refine bX7_skipBlanks_0 hC ?_
      rw [ups_eq, ups_ne (Or.inr (by decide)), h.1, if_pos (by omega), w32_s (by omega), ups_66]
      refine ⟨_, hs, ?_⟩
      by_cases q : tx p = 10
      · rw [if_pos q]
        refine ih (p + 1) (by omega) ?_
        rw [← skp_st (by omega) (decide_eq_true (Or.inl q))]
        exact hx
      · rw [if_neg q]
        refine ⟨_, hs, ?_⟩
        by_cases q2 : tx p = 32
        · rw [if_pos q2]
          refine ih (p + 1) (by omega) ?_
          rw [← skp_st (by omega) (decide_eq_true (Or.inr q2))]
          exact hx
        · rw [if_neg q2]
          rw [skp_no (by omega) (decide_eq_false (fun z => z.elim q q2))] at hx
          exact hx
  exact key (n - p) p (by omega) hr
theorem skipLetters_C {d : Nat} (hd : 2 ≤ d) {σ : Sg} {tx : Nat → Int} {n p : Nat} (hn : n ≤ 700) (h : TxC σ tx n) (hp : p ≤ n) : Ct d MX7_skipLetters [rV 16 2] (upS σ 2 6 (p : Int)) (.inl []) (upS σ 2 6 (skp ltrB tx n p : Int)) := by
  refine (eX7_skipLetters (d := 1) ?_).mono hd
  intro X Xr Xt hC hr
  have key : ∀ r p : Nat, p + r = n → Xr [] (upS σ 2 6 (skp ltrB tx n p : Int)) → X 0 [rV 16 2] [] (upS σ 2 6 (p : Int)) := by
    intro r
    induction r with
    | zero =>
      intro p e hx
      have e : p = n := e
      refine bX7_skipLetters_0 hC ?_
      rw [ups_eq, ups_ne (Or.inr (by decide)), h.1, if_neg (by omega)]
      rw [e, skp_n, ← e] at hx
      exact hx
    | succ r ih =>
      intro p e hx
      have hs : Ct 1 MX7_signAt [rV 16 2, iV (p : Int)] (upS σ 2 6 (p : Int)) (.inl [iV (tx p)]) (upS σ 2 6 (p : Int)) := signAt_C (by decide) hn (h.up (by decide) (by decide)) (by omega)
      refine bX7_skipLetters_0 hC ?_
      rw [ups_eq, ups_ne (Or.inr (by decide)), h.1, if_pos (by omega), w32_s (by omega), ups_66]
      refine ⟨_, hs, _, isLetter_C (by decide), ?_⟩
      cases q : ltrB (tx p) with
      | true =>
        rw [if_neg (by decide)]
        refine ih (p + 1) (by omega) ?_
        rw [← skp_st (by omega) q]
        exact hx
      | false =>
        rw [if_pos (by decide)]
        rw [skp_no (by omega) q] at hx
        exact hx
  exact key (n - p) p (by omega) hr
/-- the class's reading of digits: exact up to three -/
theorem readDigits_C {d : Nat} (hd : 2 ≤ d) {σ : Sg} {tx : Nat → Int} {n b : Nat} (hn : n ≤ 700) (h : TxC σ tx n) (hb : b ≤ n) : ∃ v : Int, Ct d MX7_readDigits [rV 16 2] (upS σ 2 6 (b : Int)) (.inl [iV v]) (upS σ 2 6 (skp digB tx n b : Int)) ∧ (skp digB tx n b ≤ b + 3 → v = valD tx b (skp digB tx n b - b)) := by
  have key : ∀ r k : Nat, b + k + r = n → (∀ j, j < k → digB (tx (b + j)) = true) → ∀ x : Int, 0 ≤ x → x ≤ 1000 → (k ≤ 3 → x = valD tx b k) → ∃ v : Int, (∀ (X : Nat → List Vv → List Vv → Sg → Prop) (Xr : List Vv → Sg → Prop) (Xt : Nat → Sg → Prop), Clo (Ct 1) 7 cX7_readDigits (some .int) X Xr Xt → Xr [iV v] (upS σ 2 6 (skp digB tx n (b + k) : Int)) → X 2 [rV 16 2, iV x] [] (upS σ 2 6 ((b + k : Nat) : Int))) ∧ (skp digB tx n (b + k) ≤ b + 3 → v = valD tx b (skp digB tx n (b + k) - b)) := by
    intro r
    induction r with
    | zero =>
      intro k e hdg x x0 x1 hx
      have e : b + k = n := e
      refine ⟨x, ?_, ?_⟩
      · intro X Xr Xt hC hr
        refine bX7_readDigits_2 hC ?_
        rw [ups_eq, ups_ne (Or.inr (by decide)), h.1, if_neg (by omega)]
        rw [e, skp_n, ← e] at hr
        exact hr
      · intro q
        rw [e, skp_n] at q ⊢
        rw [show n - b = k by omega]
        exact hx (by omega)
    | succ r ih =>
      intro k e hdg x x0 x1 hx
      have hs : Ct 1 MX7_signAt [rV 16 2, iV ((b + k : Nat) : Int)] (upS σ 2 6 ((b + k : Nat) : Int)) (.inl [iV (tx (b + k))]) (upS σ 2 6 ((b + k : Nat) : Int)) := signAt_C (by decide) hn (h.up (by decide) (by decide)) (by omega)
      cases q : digB (tx (b + k)) with
      | false =>
        refine ⟨x, ?_, ?_⟩
        · intro X Xr Xt hC hr
          refine bX7_readDigits_2 hC ?_
          rw [ups_eq, ups_ne (Or.inr (by decide)), h.1, if_pos (by omega)]
          refine ⟨_, hs, _, isDigit_C (by decide), ?_⟩
          rw [q, if_pos (by decide)]
          rw [skp_no (by omega) q] at hr
          exact hr
        · intro g
          rw [skp_no (by omega) q] at g ⊢
          rw [show b + k - b = k by omega]
          exact hx (by omega)
      | true =>
        have qd := of_decide_eq_true q
        have hdg' : ∀ j, j < k + 1 → digB (tx (b + j)) = true := fun j hj => by
          by_cases z : j = k
          · rw [z]; exact q
          · exact hdg j (by omega)
        obtain ⟨v, v1, v2⟩ := ih (k + 1) (by omega) hdg' (min (x * 10 + tx (b + k) - 48) 1000) (by omega) (by omega) (fun hk => by
          have b1 := valD_b (tx := tx) (b := b) (k + 1) hk hdg'
          have b2 : (10 : Int) ^ (k + 1) ≤ 1000 := by
            rcases (show k = 0 ∨ k = 1 ∨ k = 2 by omega) with z | z | z <;> subst z <;> decide
          have b3 := hx (by omega)
          rw [valD_s] at b1 ⊢
          omega)
        refine ⟨v, ?_, ?_⟩
        · intro X Xr Xt hC hr
          refine bX7_readDigits_2 hC ?_
          rw [ups_eq, ups_ne (Or.inr (by decide)), h.1, if_pos (by omega), w32_s (by omega), ups_66]
          refine ⟨_, hs, _, isDigit_C (by decide), ?_⟩
          rw [q, if_neg (by decide)]
          refine ⟨_, hs, ?_⟩
          rw [w32_id (show -2147483648 ≤ x * 10 by omega) (by omega), w32_id (show -2147483648 ≤ x * 10 + tx (b + k) by omega) (by omega), w32_id (show -2147483648 ≤ x * 10 + tx (b + k) - 48 by omega) (by omega)]
          refine v1 X Xr Xt hC ?_
          rw [show b + (k + 1) = b + k + 1 by omega, ← skp_st (by omega) q]
          exact hr
        · rw [show b + (k + 1) = b + k + 1 by omega, ← skp_st (by omega) q] at v2
          exact v2
  obtain ⟨v, v1, v2⟩ := key (n - b) 0 (by omega) (fun j hj => absurd hj (Nat.not_lt_zero j)) 0 (by decide) (by decide) (fun _ => rfl)
  refine ⟨v, ?_, v2⟩
  refine (eX7_readDigits (d := 1) ?_).mono hd
  intro X Xr Xt hC hr
  refine bX7_readDigits_0 hC ?_
  exact v1 X Xr Xt hC hr
