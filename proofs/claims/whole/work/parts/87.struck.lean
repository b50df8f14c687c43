/-! PAIR: struck -/
def divN (N : Tn) (p q g : Nat) : Tn := updN N (156 + (5 * p + q)) (oN N p q / g)
theorem oN_a (N : Tn) (p q : Nat) : N (156 + (5 * p + q)) = oN N p q := by unfold oN; rw [Nat.add_assoc]
theorem divN_o {N : Tn} {p q g r s : Nat} (hq : q < 5) (hs : s < 5) : oN (divN N p q g) r s = if r = p ∧ s = q then oN N p q / g else oN N r s := by
  unfold divN
  rw [← oN_a (updN N (156 + (5 * p + q)) (oN N p q / g)) r s]
  unfold updN
  by_cases h : r = p ∧ s = q
  · rw [if_pos h, if_pos (by omega)]
  · rw [if_neg h, if_neg (by omega), oN_a N r s]
theorem divN_lo {N : Tn} {p q g j : Nat} (h : j < 156) : divN N p q g j = N j := updN_ne (by omega)
def g2 (N : Tn) (a b : Nat) : Nat := Nat.gcd (oN N a b) (oN N b a)
def g3 (N : Tn) (a b c : Nat) : Nat := Nat.gcd (Nat.gcd (oN N a b) (oN N b c)) (oN N c a)
def s2 (N : Tn) (a b : Nat) : Tn := divN (divN N a b (g2 N a b)) b a (g2 N a b)
def s3 (N : Tn) (a b c : Nat) : Tn := divN (divN (divN N a b (g3 N a b c)) b c (g3 N a b c)) c a (g3 N a b c)
def E2 (N : Tn) (a b : Nat) : Prop := a < b ∧ b < 5 ∧ 1 < g2 N a b
def E3 (N : Tn) (a b c : Nat) : Prop := a < b ∧ b < 5 ∧ a < c ∧ c < 5 ∧ b ≠ c ∧ 1 < g3 N a b c
/-- debts below powers: the measure -/
def WD (N : Tn) (E : Nat → Nat) : Prop := ∀ i, i < 25 → N (156 + i) < 2 ^ E i
theorem o_le {N : Tn} (hW : WFN N) {p q : Nat} (hp : p < 5) (hq : q < 5) : 1 ≤ oN N p q ∧ oN N p q ≤ 1000000000 := ⟨(hW.2.2.2.2.2.2.2.2.1 p q hp hq).1, (hW.2.2.2.2.2.2.2.2.1 p q hp hq).2.1⟩
theorem o_out {N : Tn} (hW : WFN N) {p q : Nat} (hp : p < 5) (hq : q < 5) (h : N 2 ≤ p ∨ N 2 ≤ q) : oN N p q = 1 := (hW.2.2.2.2.2.2.2.2.1 p q hp hq).2.2 (Or.inr h)
theorem div_wf {N : Tn} {E : Nat → Nat} (hW : WFN N) (hE : WD N E) {p q g : Nat} (hp : p < N 2) (hq : q < N 2) (hne : p ≠ q) (hg : 2 ≤ g) (hd : g ∣ oN N p q) : WFN (divN N p q g) ∧ WD (divN N p q g) (ud E (5 * p + q) (E (5 * p + q) - 1)) ∧ 1 ≤ E (5 * p + q) := by
  have h5 := hW.1.2.1
  have ho := o_le hW (show p < 5 by omega) (show q < 5 by omega)
  have hdl := Nat.div_le_self (oN N p q) g
  have h1 : 1 ≤ oN N p q / g := by rw [Nat.le_div_iff_mul_le (by omega), Nat.one_mul]; exact Nat.le_of_dvd (by omega) hd
  have h2 : oN N p q / g ≤ oN N p q / 2 := Nat.div_le_div_left hg (by decide)
  have hEi := hE (5 * p + q) (by omega)
  rw [oN_a N p q] at hEi
  have hE1 : 1 ≤ E (5 * p + q) := by
    by_cases z : E (5 * p + q) = 0
    · rw [z] at hEi
      have : oN N p q < 1 := hEi
      omega
    · omega
  refine ⟨WFN_debt hW hp hq hne h1 (by omega), ?_, hE1⟩
  intro i hi
  by_cases e : i = 5 * p + q
  · rw [e, ud_eq]
    unfold divN
    rw [updN_eq]
    have e2 : 2 ^ E (5 * p + q) = 2 ^ (E (5 * p + q) - 1) * 2 := by rw [← Nat.pow_succ, show (E (5 * p + q) - 1).succ = E (5 * p + q) by omega]
    rw [e2] at hEi
    omega
  · rw [ud_ne e]
    unfold divN
    rw [updN_ne (by omega)]
    exact hE i hi
theorem ud_sum {E : Nat → Nat} {c : Nat} (hc : c < 25) (h : 1 ≤ E c) : sumN (ud E c (E c - 1)) 25 + 1 = sumN E 25 := by
  have := sumN_upd (f := E) (c := c) (v := E c - 1) 25 hc
  have e : sumN (ud E c (E c - 1)) 25 = sumN (fun i => if i = c then E c - 1 else E i) 25 := rfl
  omega
theorem WD30 {N : Tn} (hW : WFN N) : WD N (fun _ => 30) := by
  intro i hi
  have := (o_le hW (show i / 5 < 5 by omega) (show i % 5 < 5 by omega)).2
  rw [← oN_a N (i / 5) (i % 5), show 5 * (i / 5) + i % 5 = i by omega] at this
  show N (156 + i) < 2 ^ 30
  omega
theorem lt_2 {N : Tn} (hW : WFN N) {a b : Nat} (h : E2 N a b) : a < N 2 ∧ b < N 2 := by
  obtain ⟨h1, h2, h3⟩ := h
  by_cases z : a < N 2 ∧ b < N 2
  · exact z
  · exfalso
    have e1 := o_out hW (show a < 5 by omega) h2 (by omega)
    unfold g2 at h3
    rw [e1, Nat.gcd_one_left] at h3
    omega
theorem lt_3 {N : Tn} (hW : WFN N) {a b c : Nat} (h : E3 N a b c) : a < N 2 ∧ b < N 2 ∧ c < N 2 := by
  obtain ⟨h1, h2, h3, h4, h6, h7⟩ := h
  by_cases z : a < N 2 ∧ b < N 2 ∧ c < N 2
  · exact z
  · exfalso
    unfold g3 at h7
    by_cases y : N 2 ≤ b
    · rw [o_out hW (show a < 5 by omega) h2 (by omega), Nat.gcd_one_left, Nat.gcd_one_left] at h7
      omega
    · rw [o_out hW h4 (show a < 5 by omega) (by omega), Nat.gcd_one_right] at h7
      omega
theorem s2_ok {N : Tn} {E : Nat → Nat} (hW : WFN N) (hE : WD N E) {a b : Nat} (h : E2 N a b) : WFN (s2 N a b) ∧ ∃ F, WD (s2 N a b) F ∧ sumN F 25 < sumN E 25 := by
  obtain ⟨h1, h2, h3⟩ := h
  have h5 := hW.1.2.1
  have hlt := lt_2 hW ⟨h1, h2, h3⟩
  obtain ⟨w1, e1, k1⟩ := div_wf hW hE hlt.1 hlt.2 (by omega) (show 2 ≤ g2 N a b by omega) (Nat.gcd_dvd_left _ _)
  have o2 : oN (divN N a b (g2 N a b)) b a = oN N b a := by rw [divN_o (by omega) (by omega), if_neg (by omega)]
  have n2 : divN N a b (g2 N a b) 2 = N 2 := divN_lo (by decide)
  obtain ⟨w2, e2, k2⟩ := div_wf w1 e1 (p := b) (q := a) (g := g2 N a b) (by rw [n2]; exact hlt.2) (by rw [n2]; exact hlt.1) (by omega) (by omega) (by rw [o2]; exact Nat.gcd_dvd_right _ _)
  refine ⟨w2, _, e2, ?_⟩
  have s1 := ud_sum (c := 5 * a + b) (by omega) k1
  have s2 := ud_sum (c := 5 * b + a) (by omega) k2
  omega
theorem s3_ok {N : Tn} {E : Nat → Nat} (hW : WFN N) (hE : WD N E) {a b c : Nat} (h : E3 N a b c) : WFN (s3 N a b c) ∧ ∃ F, WD (s3 N a b c) F ∧ sumN F 25 < sumN E 25 := by
  obtain ⟨h1, h2, h3, h4, h6, h7⟩ := h
  have h5 := hW.1.2.1
  have hlt := lt_3 hW ⟨h1, h2, h3, h4, h6, h7⟩
  have d1 : g3 N a b c ∣ oN N a b := Nat.dvd_trans (Nat.gcd_dvd_left _ _) (Nat.gcd_dvd_left _ _)
  have d2 : g3 N a b c ∣ oN N b c := Nat.dvd_trans (Nat.gcd_dvd_left _ _) (Nat.gcd_dvd_right _ _)
  have d3 : g3 N a b c ∣ oN N c a := Nat.gcd_dvd_right _ _
  have hg : 2 ≤ g3 N a b c := by omega
  generalize hgg : g3 N a b c = g at d1 d2 d3 hg
  obtain ⟨w1, e1, k1⟩ := div_wf hW hE hlt.1 hlt.2.1 (by omega) hg d1
  have o2 : oN (divN N a b g) b c = oN N b c := by rw [divN_o (by omega) (by omega), if_neg (by omega)]
  have n2 : divN N a b g 2 = N 2 := divN_lo (by decide)
  obtain ⟨w2, e2, k2⟩ := div_wf w1 e1 (p := b) (q := c) (g := g) (by rw [n2]; exact hlt.2.1) (by rw [n2]; exact hlt.2.2) (by omega) (by omega) (by rw [o2]; exact d2)
  have o3 : oN (divN (divN N a b g) b c g) c a = oN N c a := by rw [divN_o (by omega) (by omega), if_neg (by omega), divN_o (by omega) (by omega), if_neg (by omega)]
  have n3 : divN (divN N a b g) b c g 2 = N 2 := by rw [divN_lo (by decide), n2]
  obtain ⟨w3, e3, k3⟩ := div_wf w2 e2 (p := c) (q := a) (g := g) (by rw [n3]; exact hlt.2.2) (by rw [n3]; exact hlt.1) (by omega) (by omega) (by rw [o3]; exact d3)
  unfold s3
  rw [hgg]
  refine ⟨w3, _, e3, ?_⟩
  have s1 := ud_sum (c := 5 * a + b) (by omega) k1
  have s2 := ud_sum (c := 5 * b + c) (by omega) k2
  have s3 := ud_sum (c := 5 * c + a) (by omega) k3
  omega
theorem fst_n : ∀ (n : Nat) (Q : Nat → Prop), (∀ i, i < n → ¬ Q i) ∨ ∃ i, i < n ∧ Q i ∧ ∀ j, j < i → ¬ Q j := by
  intro n Q
  induction n with
  | zero => exact Or.inl (fun i h => absurd h (Nat.not_lt_zero i))
  | succ n ih =>
    rcases ih with h | ⟨i, h1, h2, h3⟩
    · by_cases q : Q n
      · exact Or.inr ⟨n, by omega, q, h⟩
      · exact Or.inl (fun i hi => by
          by_cases e : i = n
          · rw [e]; exact q
          · exact h i (by omega))
    · exact Or.inr ⟨i, by omega, h2, h3⟩
def No2 (N : Tn) (a b : Nat) : Prop := ∀ a' b', (a' < a ∨ (a' = a ∧ b' < b)) → ¬ E2 N a' b'
def No3 (N : Tn) (a b c : Nat) : Prop := ∀ a' b' c', (a' < a ∨ (a' = a ∧ (b' < b ∨ (b' = b ∧ c' < c)))) → ¬ E3 N a' b' c'
def R2 (N : Tn) (r : Int) (M : Tn) : Prop := (r = 0 ∧ M = N ∧ ∀ a b, ¬ E2 N a b) ∨ (r = 1 ∧ ∃ a b, E2 N a b ∧ No2 N a b ∧ M = s2 N a b)
def R3 (N : Tn) (r : Int) (M : Tn) : Prop := (r = 0 ∧ M = N ∧ ∀ a b c, ¬ E3 N a b c) ∨ (r = 1 ∧ ∃ a b c, E3 N a b c ∧ No3 N a b c ∧ M = s3 N a b c)
theorem R2_ex (N : Tn) : ∃ r M, R2 N r M := by
  rcases fst_n 25 (fun i => E2 N (i / 5) (i % 5)) with h | ⟨i, h1, h2, h3⟩
  · refine ⟨0, N, Or.inl ⟨rfl, rfl, fun a b e => ?_⟩⟩
    obtain ⟨q1, q2, q3⟩ := e
    have := h (5 * a + b) (by omega)
    rw [show (5 * a + b) / 5 = a by omega, show (5 * a + b) % 5 = b by omega] at this
    exact this ⟨q1, q2, q3⟩
  · refine ⟨1, _, Or.inr ⟨rfl, i / 5, i % 5, h2, ?_, rfl⟩⟩
    intro a b hl e
    obtain ⟨q1, q2, q3⟩ := e
    have := h3 (5 * a + b) (by omega)
    rw [show (5 * a + b) / 5 = a by omega, show (5 * a + b) % 5 = b by omega] at this
    exact this ⟨q1, q2, q3⟩
theorem R3_ex (N : Tn) : ∃ r M, R3 N r M := by
  rcases fst_n 125 (fun i => E3 N (i / 25) (i / 5 % 5) (i % 5)) with h | ⟨i, h1, h2, h3⟩
  · refine ⟨0, N, Or.inl ⟨rfl, rfl, fun a b c e => ?_⟩⟩
    have e0 := e
    obtain ⟨q1, q2, q3, q4, q5, q6⟩ := e
    have := h (25 * a + 5 * b + c) (by omega)
    rw [show (25 * a + 5 * b + c) / 25 = a by omega, show (25 * a + 5 * b + c) / 5 % 5 = b by omega, show (25 * a + 5 * b + c) % 5 = c by omega] at this
    exact this e0
  · refine ⟨1, _, Or.inr ⟨rfl, i / 25, i / 5 % 5, i % 5, h2, ?_, rfl⟩⟩
    intro a b c hl e
    have e0 := e
    obtain ⟨q1, q2, q3, q4, q5, q6⟩ := e
    have := h3 (25 * a + 5 * b + c) (by omega)
    rw [show (25 * a + 5 * b + c) / 25 = a by omega, show (25 * a + 5 * b + c) / 5 % 5 = b by omega, show (25 * a + 5 * b + c) % 5 = c by omega] at this
    exact this e0
/-- where nothing stands ahead and this one is, it is the first -/
theorem R2_at {N : Tn} {r : Int} {M : Tn} {a b : Nat} (h : R2 N r M) (hn : No2 N a b) (he : E2 N a b) : r = 1 ∧ M = s2 N a b := by
  rcases h with ⟨_, _, h3⟩ | ⟨h1, a0, b0, e0, n0, hM⟩
  · exact absurd he (h3 a b)
  · have l1 : ¬ (a0 < a ∨ (a0 = a ∧ b0 < b)) := fun q => hn a0 b0 q e0
    have l2 : ¬ (a < a0 ∨ (a = a0 ∧ b < b0)) := fun q => n0 a b q he
    have ea : a0 = a := by omega
    have eb : b0 = b := by omega
    rw [ea, eb] at hM
    exact ⟨h1, hM⟩
theorem R3_at {N : Tn} {r : Int} {M : Tn} {a b c : Nat} (h : R3 N r M) (hn : No3 N a b c) (he : E3 N a b c) : r = 1 ∧ M = s3 N a b c := by
  rcases h with ⟨_, _, h3⟩ | ⟨h1, a0, b0, c0, e0, n0, hM⟩
  · exact absurd he (h3 a b c)
  · have l1 : ¬ (a0 < a ∨ (a0 = a ∧ (b0 < b ∨ (b0 = b ∧ c0 < c)))) := fun q => hn a0 b0 c0 q e0
    have l2 : ¬ (a < a0 ∨ (a = a0 ∧ (b < b0 ∨ (b = b0 ∧ c < c0)))) := fun q => n0 a b c q he
    have ea : a0 = a := by omega
    have eb : b0 = b := by omega
    have ec : c0 = c := by omega
    rw [ea, eb, ec] at hM
    exact ⟨h1, hM⟩
theorem R2_no {N : Tn} {r : Int} {M : Tn} (h : R2 N r M) (hn : ∀ a b, ¬ E2 N a b) : r = 0 ∧ M = N := by
  rcases h with ⟨h1, h2, _⟩ | ⟨_, a0, b0, e0, _⟩
  · exact ⟨h1, h2⟩
  · exact absurd e0 (hn a0 b0)
theorem R3_no {N : Tn} {r : Int} {M : Tn} (h : R3 N r M) (hn : ∀ a b c, ¬ E3 N a b c) : r = 0 ∧ M = N := by
  rcases h with ⟨h1, h2, _⟩ | ⟨_, a0, b0, c0, e0, _⟩
  · exact ⟨h1, h2⟩
  · exact absurd e0 (hn a0 b0 c0)
/-! the class -/
theorem ctX1_ofN {d p q : Nat} {N : Tn} {σ : Sg} (hd : 2 ≤ d) (hp : p < 5) (hq : q < 5) : Ct d MX1_of [rV 11 8, iV (p : Int), iV (q : Int)] (tnS σ 7 N) (.inl [lV (oN N p q : Int)]) (tnS σ 7 N) := by
  have := ctX1_of (d := d) (t := 8) (σ := tnS σ 7 N) hd hp hq
  have e : tnS σ 7 N (8 + 1) (5 * p + q) = (oN N p q : Int) := by
    rw [show 8 + 1 = 7 + 2 from rfl, tnS_2 (by omega), oN_a N p q]
  rw [e] at this
  exact this
theorem ctX1_divide {d p q g : Nat} {N : Tn} {σ : Sg} (hd : 3 ≤ d) (hW : WFN N) (hp : p < 5) (hq : q < 5) (hg : 1 < g) : Ct d MX1_divide [rV 11 8, iV (p : Int), iV (q : Int), lV (g : Int)] (tnS σ 7 N) (.inl []) (tnS σ 7 (divN N p q g)) := by
  refine (eX1_divide (d := 2) ?_).mono hd
  intro X Xr Xt hC hr
  refine bX1_divide_0 hC ?_
  have ho := o_le hW hp hq
  have hdl := Nat.div_le_self (oN N p q) g
  rw [if_pos (by omega)]
  refine ⟨_, ctX1_ofN (by decide) hp hq, by omega, _, ctX1_set (by decide) hp hq, ?_⟩
  rw [tdiv_nat, w64_n (show oN N p q / g < 9223372036854775808 by omega), show 8 + 1 = 7 + 2 from rfl, tnS_debt (by omega)]
  exact hr
theorem gcd_le2 {N : Tn} (hW : WFN N) {a b : Nat} (ha : a < 5) (hb : b < 5) : g2 N a b ≤ 1000000000 := Nat.le_trans (Nat.le_of_dvd (o_le hW ha hb).1 (Nat.gcd_dvd_left _ _)) (o_le hW ha hb).2
theorem gcd_le3 {N : Tn} (hW : WFN N) {a b c : Nat} (ha : a < 5) (hc : c < 5) : g3 N a b c ≤ 1000000000 := Nat.le_trans (Nat.le_of_dvd (o_le hW hc ha).1 (Nat.gcd_dvd_right _ _)) (o_le hW hc ha).2
theorem ctX1_strikeTwo {d : Nat} {N M : Tn} {r : Int} {σ : Sg} (hd : 4 ≤ d) (hW : WFN N) (h : R2 N r M) : Ct d MX1_strikeTwo [rV 11 8] (tnS σ 7 N) (.inl [iV r]) (tnS σ 7 M) := by
  refine (eX1_strikeTwo (d := 3) ?_).mono hd
  intro X Xr Xt hC hr
  refine bX1_strikeTwo_0 hC ?_
  have key : ∀ a, a ≤ 5 → No2 N a 0 → X 2 [rV 11 8, iV (a : Int), uV, uV, uV] [] (tnS σ 7 N) := by
    refine loop_up (P := fun a => No2 N a 0 → X 2 [rV 11 8, iV (a : Int), uV, uV, uV] [] (tnS σ 7 N)) ?_ ?_
    · intro hn
      refine bX1_strikeTwo_2 hC ?_
      rw [if_neg (by decide)]
      obtain ⟨e1, e2⟩ := R2_no h (fun a b e => hn a b (Or.inl (by have := e.1; have := e.2.1; omega)) e)
      rw [e1, e2] at hr
      exact hr
    · intro a ha ih hn
      refine bX1_strikeTwo_2 hC ?_
      rw [if_pos (by omega), w32_s (by omega)]
      have key2 : ∀ b, b ≤ 5 → a < b → No2 N a b → X 11 [rV 11 8, iV (a : Int), iV (b : Int), uV, uV] [] (tnS σ 7 N) := by
        refine loop_up (P := fun b => a < b → No2 N a b → X 11 [rV 11 8, iV (a : Int), iV (b : Int), uV, uV] [] (tnS σ 7 N)) ?_ ?_
        · intro hab hnb
          refine bX1_strikeTwo_11 hC ?_
          rw [if_neg (by decide), w32_s (by omega)]
          refine ih ?_
          intro a' b' hl e
          by_cases z : a' < a ∨ (a' = a ∧ b' < 5)
          · exact hnb a' b' z e
          · have := e.2.1; omega
        · intro b hb ihb hab hnb
          refine bX1_strikeTwo_11 hC ?_
          have ho1 := (o_le hW (show a < 5 by omega) hb).2
          have ho2 := (o_le hW hb (show a < 5 by omega)).2
          rw [if_pos (by omega)]
          refine ⟨_, ctX1_ofN (by decide) (by omega) hb, _, ctX1_ofN (by decide) hb (by omega), _, ctX3_commonFactor (by decide) (by omega) (by omega), ?_⟩
          show (if (1 : Int) < (g2 N a b : Int) then _ else _)
          by_cases q : 1 < g2 N a b
          · rw [if_pos (by omega)]
            obtain ⟨e1, e2⟩ := R2_at h hnb ⟨hab, hb, q⟩
            rw [e1, e2] at hr
            have h5 := hW.1.2.1
            have hlt := lt_2 hW ⟨hab, hb, q⟩
            have hw1 := (div_wf hW (WD30 hW) hlt.1 hlt.2 (by omega) (show 2 ≤ g2 N a b by omega) (Nat.gcd_dvd_left _ _)).1
            exact ⟨_, ctX1_divide (by decide) hW (by omega) hb q, _, ctX1_divide (by decide) hw1 hb (by omega) q, hr⟩
          · rw [if_neg (by omega), w32_s (by omega)]
            refine ihb (by omega) ?_
            intro a' b' hl e
            by_cases z : a' < a ∨ (a' = a ∧ b' < b)
            · exact hnb a' b' z e
            · have ea : a' = a := by omega
              have eb : b' = b := by omega
              rw [ea, eb] at e
              exact q e.2.2
      refine key2 (a + 1) (by omega) (by omega) ?_
      intro a' b' hl e
      by_cases z : a' < a
      · exact hn a' b' (Or.inl z) e
      · have := e.1; omega
  exact key 0 (by decide) (fun a b hl _ => by omega)
