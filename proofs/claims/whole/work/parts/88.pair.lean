/-! PAIR: struck, the rings of three, the reference, both -/
theorem w3_a {N : Tn} (hW : WFN N) {a b c : Nat} (h : E3 N a b c) : WFN (divN N a b (g3 N a b c)) ∧ WFN (divN (divN N a b (g3 N a b c)) b c (g3 N a b c)) := by
  have hlt := lt_3 hW h
  obtain ⟨h1, h2, h3, h4, h6, h7⟩ := h
  have d1 : g3 N a b c ∣ oN N a b := Nat.dvd_trans (Nat.gcd_dvd_left _ _) (Nat.gcd_dvd_left _ _)
  have d2 : g3 N a b c ∣ oN N b c := Nat.dvd_trans (Nat.gcd_dvd_left _ _) (Nat.gcd_dvd_right _ _)
  obtain ⟨w1, e1, k1⟩ := div_wf hW (WD30 hW) hlt.1 hlt.2.1 (by omega) (show 2 ≤ g3 N a b c by omega) d1
  have o2 : oN (divN N a b (g3 N a b c)) b c = oN N b c := by rw [divN_o (by omega) (by omega), if_neg (by omega)]
  have n2 : divN N a b (g3 N a b c) 2 = N 2 := divN_lo (by decide)
  exact ⟨w1, (div_wf w1 e1 (p := b) (q := c) (g := g3 N a b c) (by rw [n2]; exact hlt.2.1) (by rw [n2]; exact hlt.2.2) (by omega) (by omega) (by rw [o2]; exact d2)).1⟩
theorem ctX1_strikeRing_0 {d a b c : Nat} {N : Tn} {σ : Sg} (hd : 4 ≤ d) (hW : WFN N) (ha : a < 5) (hb : b < 5) (hc : c < 5) (h : ¬ 1 < g3 N a b c) : Ct d MX1_strikeRing [rV 11 8, iV (a : Int), iV (b : Int), iV (c : Int)] (tnS σ 7 N) (.inl [iV 0]) (tnS σ 7 N) := by
  refine (eX1_strikeRing (d := 3) ?_).mono hd
  intro X Xr Xt hC hr
  refine bX1_strikeRing_0 hC ?_
  have o1 := (o_le hW ha hb).2
  have o2 := (o_le hW hb hc).2
  have o3 := (o_le hW hc ha).2
  have gl : Nat.gcd (oN N a b) (oN N b c) ≤ 1000000000 := Nat.le_trans (Nat.le_of_dvd (o_le hW ha hb).1 (Nat.gcd_dvd_left _ _)) o1
  refine ⟨_, ctX1_ofN (by decide) ha hb, _, ctX1_ofN (by decide) hb hc, _, ctX3_commonFactor (by decide) (by omega) (by omega), _, ctX1_ofN (by decide) hc ha, _, ctX3_commonFactor (by decide) (by omega) (by omega), ?_⟩
  show (if (g3 N a b c : Int) < 2 then _ else _)
  rw [if_pos (by omega)]
  exact hr
theorem ctX1_strikeRing {d a b c : Nat} {N : Tn} {σ : Sg} (hd : 4 ≤ d) (hW : WFN N) (h : E3 N a b c) : Ct d MX1_strikeRing [rV 11 8, iV (a : Int), iV (b : Int), iV (c : Int)] (tnS σ 7 N) (.inl [iV 1]) (tnS σ 7 (s3 N a b c)) := by
  obtain ⟨w1, w2⟩ := w3_a hW h
  obtain ⟨h1, h2, h3, h4, h6, h7⟩ := h
  have ha : a < 5 := by omega
  refine (eX1_strikeRing (d := 3) ?_).mono hd
  intro X Xr Xt hC hr
  refine bX1_strikeRing_0 hC ?_
  have o1 := (o_le hW ha h2).2
  have o2 := (o_le hW h2 h4).2
  have o3 := (o_le hW h4 ha).2
  have gl : Nat.gcd (oN N a b) (oN N b c) ≤ 1000000000 := Nat.le_trans (Nat.le_of_dvd (o_le hW ha h2).1 (Nat.gcd_dvd_left _ _)) o1
  refine ⟨_, ctX1_ofN (by decide) ha h2, _, ctX1_ofN (by decide) h2 h4, _, ctX3_commonFactor (by decide) (by omega) (by omega), _, ctX1_ofN (by decide) h4 ha, _, ctX3_commonFactor (by decide) (by omega) (by omega), ?_⟩
  show (if (g3 N a b c : Int) < 2 then _ else _)
  rw [if_neg (by omega)]
  exact ⟨_, ctX1_divide (by decide) hW ha h2 h7, _, ctX1_divide (by decide) w1 h2 h4 h7, _, ctX1_divide (by decide) w2 h4 ha h7, hr⟩
theorem ctX1_strikeThree {d : Nat} {N M : Tn} {r : Int} {σ : Sg} (hd : 5 ≤ d) (hW : WFN N) (h : R3 N r M) : Ct d MX1_strikeThree [rV 11 8] (tnS σ 7 N) (.inl [iV r]) (tnS σ 7 M) := by
  refine (eX1_strikeThree (d := 4) ?_).mono hd
  intro X Xr Xt hC hr
  refine bX1_strikeThree_0 hC ?_
  have key : ∀ a, a ≤ 5 → No3 N a 0 0 → X 2 [rV 11 8, iV (a : Int), uV, uV] [] (tnS σ 7 N) := by
    refine loop_up (P := fun a => No3 N a 0 0 → X 2 [rV 11 8, iV (a : Int), uV, uV] [] (tnS σ 7 N)) ?_ ?_
    · intro hn
      refine bX1_strikeThree_2 hC ?_
      rw [if_neg (by decide)]
      obtain ⟨e1, e2⟩ := R3_no h (fun a b c e => hn a b c (Or.inl (by have := e.1; have := e.2.1; omega)) e)
      rw [e1, e2] at hr
      exact hr
    · intro a ha ih hn
      refine bX1_strikeThree_2 hC ?_
      rw [if_pos (by omega), w32_s (by omega)]
      have key2 : ∀ b, b ≤ 5 → a < b → No3 N a b 0 → X 11 [rV 11 8, iV (a : Int), iV (b : Int), uV] [] (tnS σ 7 N) := by
        refine loop_up (P := fun b => a < b → No3 N a b 0 → X 11 [rV 11 8, iV (a : Int), iV (b : Int), uV] [] (tnS σ 7 N)) ?_ ?_
        · intro hab hnb
          refine bX1_strikeThree_11 hC ?_
          rw [if_neg (by decide), w32_s (by omega)]
          refine ih ?_
          intro a' b' c' hl e
          by_cases z : a' < a ∨ (a' = a ∧ b' < 5)
          · exact hnb a' b' c' (by omega) e
          · have := e.2.1; omega
        · intro b hb ihb hab hnb
          refine bX1_strikeThree_11 hC ?_
          rw [if_pos (by omega), w32_s (by omega)]
          have key3 : ∀ c, c ≤ 5 → a < c → No3 N a b c → X 20 [rV 11 8, iV (a : Int), iV (b : Int), iV (c : Int)] [] (tnS σ 7 N) := by
            refine loop_up (P := fun c => a < c → No3 N a b c → X 20 [rV 11 8, iV (a : Int), iV (b : Int), iV (c : Int)] [] (tnS σ 7 N)) ?_ ?_
            · intro _ hnc
              refine bX1_strikeThree_20 hC ?_
              rw [if_neg (by decide), w32_s (by omega)]
              refine ihb (by omega) ?_
              intro a' b' c' hl e
              by_cases z : a' < a ∨ (a' = a ∧ (b' < b ∨ (b' = b ∧ c' < 5)))
              · exact hnc a' b' c' z e
              · have := e.2.2.2.1; omega
            · intro c hc ihc hac hnc
              refine bX1_strikeThree_20 hC ?_
              rw [if_pos (by omega), w32_s (by omega)]
              have nx : ¬ E3 N a b c → X 20 [rV 11 8, iV (a : Int), iV (b : Int), iV ((c + 1 : Nat) : Int)] [] (tnS σ 7 N) := by
                intro hno
                refine ihc (by omega) ?_
                intro a' b' c' hl e
                by_cases z : a' < a ∨ (a' = a ∧ (b' < b ∨ (b' = b ∧ c' < c)))
                · exact hnc a' b' c' z e
                · have ea : a' = a := by omega
                  have eb : b' = b := by omega
                  have ec : c' = c := by omega
                  rw [ea, eb, ec] at e
                  exact hno e
              by_cases q0 : c = b
              · rw [if_pos (by omega)]
                exact nx (fun e => e.2.2.2.2.1 q0.symm)
              · rw [if_neg (by omega)]
                by_cases q : 1 < g3 N a b c
                · have he : E3 N a b c := ⟨hab, hb, hac, hc, fun z => q0 z.symm, q⟩
                  obtain ⟨e1, e2⟩ := R3_at h hnc he
                  rw [e1, e2] at hr
                  refine ⟨_, _, ctX1_strikeRing (by decide) hW he, ?_⟩
                  rw [if_neg (by decide)]
                  exact hr
                · refine ⟨_, _, ctX1_strikeRing_0 (by decide) hW (by omega) hb hc q, ?_⟩
                  rw [if_pos rfl]
                  exact nx (fun e => q e.2.2.2.2.2)
          refine key3 (a + 1) (by omega) (by omega) ?_
          intro a' b' c' hl e
          by_cases z : a' < a ∨ (a' = a ∧ b' < b)
          · exact hnb a' b' c' (by omega) e
          · have := e.2.2.1; omega
      refine key2 (a + 1) (by omega) (by omega) ?_
      intro a' b' c' hl e
      by_cases z : a' < a
      · exact hn a' b' c' (Or.inl z) e
      · have := e.1; omega
  exact key 0 (by decide) (fun a b c hl _ => by omega)
/-! the reference -/
theorem dv_r {N : Tn} {τ : Sg} (hW : WFN N) {p q g : Nat} (hp : p < 5) (hq : q < 5) : upS (rwS τ 67 0 N) 67 (156 + (5 * p + q)) (w32 ((rwS τ 67 0 N 67 (156 + (5 * p + q))).tdiv (g : Int))) = rwS τ 67 0 (divN N p q g) := by
  have ho := o_le hW hp hq
  have hdl := Nat.div_le_self (oN N p q) g
  rw [rwm0 (rwS_row τ 67 0 N) (by omega), oN_a N p q, tdiv_nat, w32_n (show oN N p q / g < 2147483648 by omega), rwS_up (by omega)]
  rfl
theorem ctX11_strikes2_0 {d a b : Nat} {N : Tn} {τ : Sg} (hd : 2 ≤ d) (hW : WFN N) (ha : a < 5) (hb : b < 5) (h : ¬ 1 < g2 N a b) : Ct d MX11_strikes [rV 20 66, iV (a : Int), iV (b : Int), iV (-1)] (rwS τ 67 0 N) (.inl [iV 0]) (rwS τ 67 0 N) := by
  refine (eX11_strikes (d := 1) ?_).mono hd
  intro X Xr Xt hC hr
  refine bX11_strikes_0 hC ?_
  have hM := rwS_row τ 67 0 N
  have gl := gcd_le2 hW ha hb
  rw [if_pos rfl]
  refine ⟨_, ctX11_debt (by decide) ha hb hM, ?_⟩
  rw [if_pos rfl]
  refine ⟨_, ctX11_debt (by decide) hb ha hM, _, ctX11_shared (by decide), _, ctX11_shared (by decide), ?_⟩
  rw [Nat.gcd_self]
  show (if w32 (g2 N a b : Int) < 2 then _ else _)
  rw [w32_n (show g2 N a b < 2147483648 by omega), if_pos (by omega)]
  exact hr
theorem ctX11_strikes2 {d a b : Nat} {N : Tn} {τ : Sg} (hd : 2 ≤ d) (hW : WFN N) (h : E2 N a b) : Ct d MX11_strikes [rV 20 66, iV (a : Int), iV (b : Int), iV (-1)] (rwS τ 67 0 N) (.inl [iV 1]) (rwS τ 67 0 (s2 N a b)) := by
  have hlt := lt_2 hW h
  obtain ⟨h1, h2, h3⟩ := h
  have ha : a < 5 := by omega
  have w1 := (div_wf hW (WD30 hW) hlt.1 hlt.2 (by omega) (show 2 ≤ g2 N a b by omega) (Nat.gcd_dvd_left _ _)).1
  refine (eX11_strikes (d := 1) ?_).mono hd
  intro X Xr Xt hC hr
  refine bX11_strikes_0 hC ?_
  have hM := rwS_row τ 67 0 N
  have gl := gcd_le2 hW ha h2
  rw [if_pos rfl]
  refine ⟨_, ctX11_debt (by decide) ha h2 hM, ?_⟩
  rw [if_pos rfl]
  refine ⟨_, ctX11_debt (by decide) h2 ha hM, _, ctX11_shared (by decide), _, ctX11_shared (by decide), ?_⟩
  rw [Nat.gcd_self]
  have hf : w32 ((Nat.gcd (oN N a b) (oN N b a) : Nat) : Int) = (g2 N a b : Int) := w32_n (show g2 N a b < 2147483648 by omega)
  rw [hf, if_neg (by clear hf; omega), if_pos rfl, w_dbt ha h2, w_dbt h2 ha, Int.toNat_natCast, Int.toNat_natCast, dv_r hW ha h2, dv_r w1 h2 ha]
  clear hf
  exact ⟨by omega, by omega, by omega, by omega, by omega, by omega, hr⟩
theorem ctX11_strikes3_0 {d a b c : Nat} {N : Tn} {τ : Sg} (hd : 2 ≤ d) (hW : WFN N) (ha : a < 5) (hb : b < 5) (hc : c < 5) (h : ¬ 1 < g3 N a b c) : Ct d MX11_strikes [rV 20 66, iV (a : Int), iV (b : Int), iV (c : Int)] (rwS τ 67 0 N) (.inl [iV 0]) (rwS τ 67 0 N) := by
  refine (eX11_strikes (d := 1) ?_).mono hd
  intro X Xr Xt hC hr
  refine bX11_strikes_0 hC ?_
  have hM := rwS_row τ 67 0 N
  have gl := gcd_le3 hW (b := b) ha hc
  rw [if_neg (by omega)]
  refine ⟨_, ctX11_debt (by decide) ha hb hM, ?_⟩
  rw [if_neg (by omega)]
  refine ⟨_, ctX11_debt (by decide) hb hc hM, _, ctX11_debt (by decide) hc ha hM, _, ctX11_shared (by decide), _, ctX11_shared (by decide), ?_⟩
  show (if w32 (g3 N a b c : Int) < 2 then _ else _)
  rw [w32_n (show g3 N a b c < 2147483648 by omega), if_pos (by omega)]
  exact hr
theorem ctX11_strikes3 {d a b c : Nat} {N : Tn} {τ : Sg} (hd : 2 ≤ d) (hW : WFN N) (h : E3 N a b c) : Ct d MX11_strikes [rV 20 66, iV (a : Int), iV (b : Int), iV (c : Int)] (rwS τ 67 0 N) (.inl [iV 1]) (rwS τ 67 0 (s3 N a b c)) := by
  obtain ⟨w1, w2⟩ := w3_a hW h
  obtain ⟨h1, h2, h3, h4, h6, h7⟩ := h
  have ha : a < 5 := by omega
  refine (eX11_strikes (d := 1) ?_).mono hd
  intro X Xr Xt hC hr
  refine bX11_strikes_0 hC ?_
  have hM := rwS_row τ 67 0 N
  have gl := gcd_le3 hW (b := b) ha h4
  rw [if_neg (by omega)]
  refine ⟨_, ctX11_debt (by decide) ha h2 hM, ?_⟩
  rw [if_neg (by omega)]
  refine ⟨_, ctX11_debt (by decide) h2 h4 hM, _, ctX11_debt (by decide) h4 ha hM, _, ctX11_shared (by decide), _, ctX11_shared (by decide), ?_⟩
  have hf : w32 ((Nat.gcd (Nat.gcd (oN N a b) (oN N b c)) (oN N c a) : Nat) : Int) = (g3 N a b c : Int) := w32_n (show g3 N a b c < 2147483648 by omega)
  rw [hf, if_neg (by clear hf; omega), if_neg (by clear hf; omega), w_dbt ha h2, w_dbt h2 h4, w_dbt h4 ha, Int.toNat_natCast, Int.toNat_natCast, Int.toNat_natCast, dv_r hW ha h2, dv_r w1 h2 h4, dv_r w2 h4 ha]
  clear hf
  exact ⟨by omega, by omega, by omega, by omega, by omega, by omega, by omega, by omega, by omega, hr⟩
/-- the first ring of all -/
def RS (N : Tn) (r : Int) (M : Tn) : Prop := (R2 N 1 M ∧ r = 1) ∨ (R2 N 0 N ∧ R3 N r M)
theorem ctX11_strikesFirst {d : Nat} {N M : Tn} {r : Int} {τ : Sg} (hd : 3 ≤ d) (hW : WFN N) (h : RS N r M) : Ct d MX11_strikesFirst [rV 20 66] (rwS τ 67 0 N) (.inl [iV r]) (rwS τ 67 0 M) := by
  have h5 := hW.1.2.1
  refine (eX11_strikesFirst (d := 2) ?_).mono hd
  intro X Xr Xt hC hr
  refine bX11_strikesFirst_0 hC ?_
  have hM := rwS_row τ 67 0 N
  have three : (∀ a b, ¬ E2 N a b) → X 48 [rV 20 66, iV 0, uV, uV] [] (rwS τ 67 0 N) := by
    intro hno2
    have h3 : R3 N r M := by
      rcases h with ⟨⟨q, _⟩ | ⟨_, a, b, e, _⟩, _⟩ | ⟨_, q⟩
      · omega
      · exact absurd e (hno2 a b)
      · exact q
    have key : ∀ a, a ≤ N 2 → No3 N a 0 0 → X 48 [rV 20 66, iV (a : Int), uV, uV] [] (rwS τ 67 0 N) := by
      refine loop_up (P := fun a => No3 N a 0 0 → X 48 [rV 20 66, iV (a : Int), uV, uV] [] (rwS τ 67 0 N)) ?_ ?_
      · intro hn
        refine bX11_strikesFirst_48 hC ?_
        refine ⟨_, ctX11_people (by decide) hM, ?_⟩
        rw [if_neg (by omega)]
        obtain ⟨e1, e2⟩ := R3_no h3 (fun a b c e => hn a b c (Or.inl (lt_3 hW e).1) e)
        rw [e1, e2] at hr
        exact hr
      · intro a ha ih hn
        refine bX11_strikesFirst_48 hC ?_
        refine ⟨_, ctX11_people (by decide) hM, ?_⟩
        rw [if_pos (by omega), w32_s (by omega)]
        have key2 : ∀ b, b ≤ N 2 → a < b → No3 N a b 0 → X 60 [rV 20 66, iV (a : Int), iV (b : Int), uV] [] (rwS τ 67 0 N) := by
          refine loop_up (P := fun b => a < b → No3 N a b 0 → X 60 [rV 20 66, iV (a : Int), iV (b : Int), uV] [] (rwS τ 67 0 N)) ?_ ?_
          · intro hab hnb
            refine bX11_strikesFirst_60 hC ?_
            refine ⟨_, ctX11_people (by decide) hM, ?_⟩
            rw [if_neg (by omega), w32_s (by omega)]
            refine ih ?_
            intro a' b' c' hl e
            by_cases z : a' < a ∨ (a' = a ∧ b' < N 2)
            · exact hnb a' b' c' (by omega) e
            · have := (lt_3 hW e).2.1; omega
          · intro b hb ihb hab hnb
            refine bX11_strikesFirst_60 hC ?_
            refine ⟨_, ctX11_people (by decide) hM, ?_⟩
            rw [if_pos (by omega), w32_s (by omega)]
            have key3 : ∀ c, c ≤ N 2 → a < c → No3 N a b c → X 72 [rV 20 66, iV (a : Int), iV (b : Int), iV (c : Int)] [] (rwS τ 67 0 N) := by
              refine loop_up (P := fun c => a < c → No3 N a b c → X 72 [rV 20 66, iV (a : Int), iV (b : Int), iV (c : Int)] [] (rwS τ 67 0 N)) ?_ ?_
              · intro _ hnc
                refine bX11_strikesFirst_72 hC ?_
                refine ⟨_, ctX11_people (by decide) hM, ?_⟩
                rw [if_neg (by omega), w32_s (by omega)]
                refine ihb (by omega) ?_
                intro a' b' c' hl e
                by_cases z : a' < a ∨ (a' = a ∧ (b' < b ∨ (b' = b ∧ c' < N 2)))
                · exact hnc a' b' c' z e
                · have := (lt_3 hW e).2.2; omega
              · intro c hc ihc hac hnc
                refine bX11_strikesFirst_72 hC ?_
                refine ⟨_, ctX11_people (by decide) hM, ?_⟩
                rw [if_pos (by omega), w32_s (by omega)]
                have nx : ¬ E3 N a b c → X 72 [rV 20 66, iV (a : Int), iV (b : Int), iV ((c + 1 : Nat) : Int)] [] (rwS τ 67 0 N) := by
                  intro hno
                  refine ihc (by omega) ?_
                  intro a' b' c' hl e
                  by_cases z : a' < a ∨ (a' = a ∧ (b' < b ∨ (b' = b ∧ c' < c)))
                  · exact hnc a' b' c' z e
                  · have ea : a' = a := by omega
                    have eb : b' = b := by omega
                    have ec : c' = c := by omega
                    rw [ea, eb, ec] at e
                    exact hno e
                by_cases q0 : b = c
                · rw [if_pos (by omega)]
                  exact nx (fun e => e.2.2.2.2.1 q0)
                · rw [if_neg (by omega)]
                  by_cases q : 1 < g3 N a b c
                  · have he : E3 N a b c := ⟨hab, by omega, hac, by omega, q0, q⟩
                    obtain ⟨e1, e2⟩ := R3_at h3 hnc he
                    rw [e1, e2] at hr
                    refine ⟨_, _, ctX11_strikes3 (by decide) hW he, ?_⟩
                    rw [if_neg (by decide)]
                    exact hr
                  · refine ⟨_, _, ctX11_strikes3_0 (by decide) hW (by omega) (by omega) (by omega) q, ?_⟩
                    rw [if_pos rfl]
                    exact nx (fun e => q e.2.2.2.2.2)
            refine key3 (a + 1) (by omega) (by omega) ?_
            intro a' b' c' hl e
            by_cases z : a' < a ∨ (a' = a ∧ b' < b)
            · exact hnb a' b' c' (by omega) e
            · have := e.2.2.1; omega
        refine key2 (a + 1) (by omega) (by omega) ?_
        intro a' b' c' hl e
        by_cases z : a' < a
        · exact hn a' b' c' (Or.inl z) e
        · have := e.1; omega
    exact key 0 (Nat.zero_le _) (fun a b c hl _ => by omega)
  have two : ∀ a b, No2 N a b → E2 N a b → M = s2 N a b ∧ r = 1 := by
    intro a b hn he
    rcases h with ⟨q, q1⟩ | ⟨q, _⟩
    · exact ⟨(R2_at q hn he).2, q1⟩
    · have := (R2_at q hn he).1; omega
  have key : ∀ a, a ≤ N 2 → No2 N a 0 → X 2 [rV 20 66, iV (a : Int), uV, uV] [] (rwS τ 67 0 N) := by
    refine loop_up (P := fun a => No2 N a 0 → X 2 [rV 20 66, iV (a : Int), uV, uV] [] (rwS τ 67 0 N)) ?_ ?_
    · intro hn
      refine bX11_strikesFirst_2 hC ?_
      refine ⟨_, ctX11_people (by decide) hM, ?_⟩
      rw [if_neg (by omega)]
      exact three (fun a b e => hn a b (Or.inl (lt_2 hW e).1) e)
    · intro a ha ih hn
      refine bX11_strikesFirst_2 hC ?_
      refine ⟨_, ctX11_people (by decide) hM, ?_⟩
      rw [if_pos (by omega), w32_s (by omega)]
      have key2 : ∀ b, b ≤ N 2 → a < b → No2 N a b → X 14 [rV 20 66, iV (a : Int), iV (b : Int), uV] [] (rwS τ 67 0 N) := by
        refine loop_up (P := fun b => a < b → No2 N a b → X 14 [rV 20 66, iV (a : Int), iV (b : Int), uV] [] (rwS τ 67 0 N)) ?_ ?_
        · intro hab hnb
          refine bX11_strikesFirst_14 hC ?_
          refine ⟨_, ctX11_people (by decide) hM, ?_⟩
          rw [if_neg (by omega), w32_s (by omega)]
          refine ih ?_
          intro a' b' hl e
          by_cases z : a' < a ∨ (a' = a ∧ b' < N 2)
          · exact hnb a' b' z e
          · have := (lt_2 hW e).2; omega
        · intro b hb ihb hab hnb
          refine bX11_strikesFirst_14 hC ?_
          refine ⟨_, ctX11_people (by decide) hM, ?_⟩
          rw [if_pos (by omega), w32_s (by omega)]
          by_cases q : 1 < g2 N a b
          · have he : E2 N a b := ⟨hab, by omega, q⟩
            obtain ⟨e1, e2⟩ := two a b hnb he
            rw [e1, e2] at hr
            refine ⟨_, _, ctX11_strikes2 (by decide) hW he, ?_⟩
            rw [if_neg (by decide)]
            exact hr
          · refine ⟨_, _, ctX11_strikes2_0 (by decide) hW (by omega) (by omega) q, ?_⟩
            rw [if_pos rfl]
            refine ihb (by omega) ?_
            intro a' b' hl e
            by_cases z : a' < a ∨ (a' = a ∧ b' < b)
            · exact hnb a' b' z e
            · have ea : a' = a := by omega
              have eb : b' = b := by omega
              rw [ea, eb] at e
              exact q e.2.2
      refine key2 (a + 1) (by omega) (by omega) ?_
      intro a' b' hl e
      by_cases z : a' < a
      · exact hn a' b' (Or.inl z) e
      · have := e.1; omega
  exact key 0 (Nat.zero_le _) (fun a b hl _ => by omega)
/-- both sides strike to the end -/
theorem st_all : ∀ (T k : Nat) (N : Tn) (E : Nat → Nat), WFN N → WD N E → sumN E 25 ≤ T → k + T < 10000 → ∃ (v : Nat) (M : Tn), WFN M ∧ (∀ (σ : Sg) (X : Nat → List Vv → List Vv → Sg → Prop) (Xr : List Vv → Sg → Prop) (Xt : Nat → Sg → Prop), Clo (Ct 5) 1 cX1_strikeAll (some .int) X Xr Xt → Xr [iV (v : Int)] (tnS σ 7 M) → X 4 [rV 11 8, iV (k : Int), iV (k : Int)] [] (tnS σ 7 N)) ∧ (∀ (τ : Sg) (X : Nat → List Vv → List Vv → Sg → Prop) (Xr : List Vv → Sg → Prop) (Xt : Nat → Sg → Prop), Clo (Ct 6) 11 cX11_struck (some .int) X Xr Xt → Xr [iV (v : Int)] (rwS τ 67 0 M) → X 7 [rV 20 66, iV (k : Int)] [] (rwS τ 67 0 N)) := by
  intro T
  induction T with
  | zero =>
    intro k N E hW hE hT hk
    have no2 : ∀ a b, ¬ E2 N a b := fun a b e => by
      obtain ⟨_, F, _, hl⟩ := s2_ok hW hE e
      omega
    have no3 : ∀ a b c, ¬ E3 N a b c := fun a b c e => by
      obtain ⟨_, F, _, hl⟩ := s3_ok hW hE e
      omega
    refine ⟨k, N, hW, ?_, ?_⟩
    · intro σ X Xr Xt hC hr
      refine bX1_strikeAll_4 hC ?_
      rw [if_pos (by omega)]
      refine ⟨_, _, ctX1_strikeTwo (by decide) hW (Or.inl ⟨rfl, rfl, no2⟩), ?_⟩
      rw [if_pos rfl]
      refine ⟨_, _, ctX1_strikeThree (by decide) hW (Or.inl ⟨rfl, rfl, no3⟩), ?_⟩
      rw [if_pos rfl]
      exact hr
    · intro τ X Xr Xt hC hr
      refine bX11_struck_7 hC ?_
      refine ⟨_, _, ctX11_strikesFirst (by decide) hW (Or.inr ⟨Or.inl ⟨rfl, rfl, no2⟩, Or.inl ⟨rfl, rfl, no3⟩⟩), ?_⟩
      rw [if_pos rfl]
      exact hr
  | succ T ih =>
    intro k N E hW hE hT hk
    obtain ⟨r, M, h2⟩ := R2_ex N
    have h2c := h2
    rcases h2 with ⟨q1, q2, no2⟩ | ⟨q1, a, b, he, hn, q2⟩
    · obtain ⟨r3, M3, h3⟩ := R3_ex N
      have h3c := h3
      have hz : R2 N 0 N := Or.inl ⟨rfl, rfl, no2⟩
      rcases h3 with ⟨p1, p2, no3⟩ | ⟨p1, a, b, c, he, hn, p2⟩
      · refine ⟨k, N, hW, ?_, ?_⟩
        · intro σ X Xr Xt hC hr
          refine bX1_strikeAll_4 hC ?_
          rw [if_pos (by omega)]
          refine ⟨_, _, ctX1_strikeTwo (by decide) hW hz, ?_⟩
          rw [if_pos rfl]
          refine ⟨_, _, ctX1_strikeThree (by decide) hW (Or.inl ⟨rfl, rfl, no3⟩), ?_⟩
          rw [if_pos rfl]
          exact hr
        · intro τ X Xr Xt hC hr
          refine bX11_struck_7 hC ?_
          refine ⟨_, _, ctX11_strikesFirst (by decide) hW (Or.inr ⟨hz, Or.inl ⟨rfl, rfl, no3⟩⟩), ?_⟩
          rw [if_pos rfl]
          exact hr
      · obtain ⟨w3, F, hF, hl⟩ := s3_ok hW hE he
        rw [p1, p2] at h3c
        obtain ⟨v, M', m1, m2, m3⟩ := ih (k + 1) _ F w3 hF (by omega) (by omega)
        refine ⟨v, M', m1, ?_, ?_⟩
        · intro σ X Xr Xt hC hr
          refine bX1_strikeAll_4 hC ?_
          rw [if_pos (by omega)]
          refine ⟨_, _, ctX1_strikeTwo (by decide) hW hz, ?_⟩
          rw [if_pos rfl]
          refine ⟨_, _, ctX1_strikeThree (by decide) hW h3c, ?_⟩
          rw [if_neg (by decide), w32_s (by omega)]
          exact m2 σ X Xr Xt hC hr
        · intro τ X Xr Xt hC hr
          refine bX11_struck_7 hC ?_
          refine ⟨_, _, ctX11_strikesFirst (by decide) hW (Or.inr ⟨hz, h3c⟩), ?_⟩
          rw [if_neg (by decide), w32_s (by omega)]
          exact m3 τ X Xr Xt hC hr
    · obtain ⟨w2, F, hF, hl⟩ := s2_ok hW hE he
      rw [q1, q2] at h2c
      obtain ⟨v, M', m1, m2, m3⟩ := ih (k + 1) _ F w2 hF (by omega) (by omega)
      refine ⟨v, M', m1, ?_, ?_⟩
      · intro σ X Xr Xt hC hr
        refine bX1_strikeAll_4 hC ?_
        rw [if_pos (by omega)]
        refine ⟨_, _, ctX1_strikeTwo (by decide) hW h2c, ?_⟩
        rw [if_neg (by decide), w32_s (by omega)]
        exact m2 σ X Xr Xt hC hr
      · intro τ X Xr Xt hC hr
        refine bX11_struck_7 hC ?_
        refine ⟨_, _, ctX11_strikesFirst (by decide) hW (Or.inl ⟨h2c, rfl⟩), ?_⟩
        rw [if_neg (by decide), w32_s (by omega)]
        exact m3 τ X Xr Xt hC hr
theorem jn_struck {ω : Nat → Int} {σ : Sg} (hI : Inv ω σ) : Jn ω MX10_struck MX11_struck [] iV σ := by
  obtain ⟨N, hQ⟩ := hI.1
  have hW := hQ.2.2
  have h5 := hW.1.2.1
  have h8 := hW.1.1
  obtain ⟨v, M, m1, m2, m3⟩ := st_all 750 0 N (fun _ => 30) hW (WD30 hW) (by decide) (by decide)
  have hcf := (FrC.refl σ).tn (M := M)
  have ha : ag80 (tnS σ 7 M) (tnS σ 7 M) := fun _ _ => rfl
  have hM0 := RowM_c hQ.2.1 hcf ha
  have hM1 : RowM (upS (tnS σ 7 M) 66 5 0) 67 0 N := RowM_ups hM0 (by decide)
  refine ⟨(v : Int), tnS σ 7 M, ?_, rwS (upS (tnS σ 7 M) 66 5 0) 67 0 M, ?_, wr_end hI hcf (tnS_row _ _ _) ha (th_r (FrR.refl _)).rw67 (rwS_row _ _ _ _) m1⟩
  · refine (eX10_struck (d := 6) ?_).mono (by decide)
    intro X Xr Xt hC hr
    refine bX10_struck_0 hC ?_
    have hs : Ct 6 MX1_strikeAll [rV 11 8] σ (.inl [iV (v : Int)]) (tnS σ 7 M) := by
      refine (eX1_strikeAll (d := 5) ?_).mono (by decide)
      intro X Xr Xt hC hr
      refine bX1_strikeAll_0 hC ?_
      have := m2 σ X Xr Xt hC hr
      rw [tnS_id hQ.1] at this
      exact this
    exact ⟨_, _, hs, hr⟩
  · refine (eX11_struck (d := 6) ?_).mono (by decide)
    intro X Xr Xt hC hr
    refine bX11_struck_0 hC ?_
    have := m3 (upS (tnS σ 7 M) 66 5 0) X Xr Xt hC hr
    rw [rwS_id hM1] at this
    exact this
